/-- put out of sight -/
def qHid (p : Prop) : Prop := p
/-! what is mended first -/
def hoN (c : Int → Int) (d : Int) : Nat → Int
  | 0 => 0
  | n + 1 => hoN c d n + (if ia (sr d n) 1 = 1 then 1 + c n % 6 else 0)
def ho (c : Int → Int) (d n : Int) : Int := hoN c d n.toNat
theorem ho_s {c : Int → Int} {d k : Int} (h : 0 ≤ k) : ho c d (k + 1) = ho c d k + (if ia (sr d k) 1 = 1 then 1 + c k % 6 else 0) := by
  obtain ⟨n, rfl⟩ := Int.eq_ofNat_of_zero_le h
  have e : ((n : Int) + 1).toNat = n + 1 := by (first | (clear hm hnf; omega) | omega)
  have e2 : ((n : Nat) : Int).toNat = n := by (first | (clear hm hnf; omega) | omega)
  unfold ho
  rw [e, e2]
  rfl
def IX (A : qA) (k : Int) : Prop := (∀ i j, 0 ≤ i → i < j → j < A 0 (fd 63) → A 50 i < A 50 j) ∧ ∀ i, 0 ≤ i → i < A 0 (fd 63) → A 50 i < k
theorem IX_k {A A' : qA} {k k' : Int} (h : IX A k) (h50 : A' 50 = A 50) (hn : A' 0 (fd 63) = A 0 (fd 63)) (hk : k ≤ k') : IX A' k' := by
  unfold IX at h ⊢
  rw [h50, hn]
  exact ⟨h.1, fun i a b => by have := h.2 i a b; omega⟩
theorem IX_u {A A' : qA} {k k' j v : Int} (h : IX A k) (h50 : A' 50 = (fun i : Int => if i = j then v else A 50 i)) (hj : j = A 0 (fd 63)) (hv : v = k) (hk : k' = k + 1) (hn : A' 0 (fd 63) = A 0 (fd 63) + 1) : IX A' k' := by
  refine ⟨fun a b a0 ab b1 => ?_, fun a a0 a1 => ?_⟩
  · by_cases hb : b = j
    · rw [hb, up_e h50, up_n h50 (by (first | (clear hm hnf; omega) | omega))]
      have := h.2 a a0 (by (first | (clear hm hnf; omega) | omega))
      omega
    · rw [up_n h50 hb, up_n h50 (by (first | (clear hm hnf; omega) | omega))]
      exact h.1 a b a0 ab (by (first | (clear hm hnf; omega) | omega))
  · by_cases hb : a = j
    · rw [hb, up_e h50]; omega
    · rw [up_n h50 hb]
      have := h.2 a a0 (by (first | (clear hm hnf; omega) | omega))
      omega
theorem IX_0 {A : qA} (h : A 0 (fd 63) = 0) : IX A 0 := ⟨fun _ _ _ _ _ => by (first | (clear hm hnf; omega) | omega), fun _ _ _ => by (first | (clear hm hnf; omega) | omega)⟩
def CB (A : qA) (d q : Int) : Prop := ia (sr d q) 1 ≠ 1 ∧ ∀ j, 0 ≤ j → j < A 0 (fd 63) → ¬ (A 50 j = A 50 q - 1 ∧ A 50 j % 6 ≠ 5 ∧ ia (sr d j) 1 = 0)
def CO (A : qA) (d q : Int) : Int := (ho (A 50) d (A 0 (fd 63)) + (1 + A 50 q % 6)) * A 21 (qd (A 50 q) 6) + A 63 (io d (sl 1 q))
theorem CB_k {A A' : qA} {d q : Int} (h50 : A' 50 = A 50) (hn : A' 0 (fd 63) = A 0 (fd 63)) : CB A' d q ↔ CB A d q := by
  unfold CB
  rw [h50, hn]
theorem CO_k {A A' : qA} {d q : Int} (h50 : A' 50 = A 50) (h21 : A' 21 = A 21) (hn : A' 0 (fd 63) = A 0 (fd 63)) (h63 : A' 63 (io d (sl 1 q)) = A 63 (io d (sl 1 q))) : CO A' d q = CO A d q := by
  unfold CO
  rw [h50, h21, hn, h63]
theorem kb5 : ∀ n < 9, ∀ q < n, ia (sr (sl 1 ((n : Nat) : Int) - 1) ((q : Nat) : Int)) 1 = 1 := by decide +kernel
theorem kb6 : ∀ q < 8, ∀ d < 256, ia (sr ((d : Nat) : Int) ((q : Nat) : Int)) 1 ≠ 1 → (d : Int) < io (d : Int) (sl 1 (q : Int)) ∧ bc (io (d : Int) (sl 1 (q : Int))) 8 = bc (d : Int) 8 + 1 := by decide +kernel
theorem kb8 : ∀ n < 9, ∀ d < 2 ^ n, ∀ q < n, io ((d : Nat) : Int) (sl 1 ((q : Nat) : Int)) < sl 1 ((n : Nat) : Int) := by decide +kernel
def lcN (d : Int) : Nat → Nat → Nat
  | 0, k => k
  | f + 1, k => if ia (sr d k) 1 = 1 then lcN d f (k + 1) else k
theorem kb7 : ∀ n < 9, ∀ d < 2 ^ n - 1, lcN ((d : Nat) : Int) 8 0 < n ∧ ia (sr (d : Int) ((lcN (d : Int) 8 0 : Nat) : Int)) 1 ≠ 1 ∧ ∀ j < lcN (d : Int) 8 0, ia (sr (d : Int) ((j : Nat) : Int)) 1 ≠ 0 := by decide +kernel
def AL (A : qA) (t : Int) : Prop := t = sl 1 (A 0 (fd 63)) - 1
theorem AL_k {A A' : qA} {t : Int} (h : AL A t) (hn : A' 0 (fd 63) = A 0 (fd 63)) : AL A' t := by
  unfold AL at h ⊢
  rw [hn]
  exact h
theorem AL_p {A : qA} {t : Int} (h : AL A t) (n0 : 0 ≤ A 0 (fd 63)) (n1 : A 0 (fd 63) ≤ 8) : t + 1 = ((2 ^ (A 0 (fd 63)).toNat : Nat) : Int) ∧ 0 ≤ t ∧ t ≤ 255 := by
  unfold AL at h
  have h2 := sl_bd (b := A 0 (fd 63)) 8 (by decide) n0 (by (first | (clear hm hnf; omega) | omega))
  have h3 := sl_1 n0 (by (first | (clear hm hnf; omega) | omega))
  exact ⟨by (first | (clear hm hnf; omega) | omega), by (first | (clear hm hnf; omega) | omega), by (first | (clear hm hnf; omega) | omega)⟩
/-- the set with one more -/
theorem CB_io {A : qA} {t d q : Int} (h : CB A d q) (ht : AL A t) (n0 : 0 ≤ A 0 (fd 63)) (n1 : A 0 (fd 63) ≤ 8) (d0 : 0 ≤ d) (d1 : d ≤ t) (q0 : 0 ≤ q) (q1 : q < A 0 (fd 63)) : d < t ∧ d < io d (sl 1 q) ∧ io d (sl 1 q) ≤ t ∧ bc (io d (sl 1 q)) 8 = bc d 8 + 1 := by
  have hp := AL_p ht n0 n1
  have h6 := kb6 q.toNat (by (first | (clear hm hnf; omega) | omega)) d.toNat (by (first | (clear hm hnf; omega) | omega))
  have h8 := kb8 (A 0 (fd 63)).toNat (by (first | (clear hm hnf; omega) | omega)) d.toNat (by (first | (clear hm hnf; omega) | omega)) q.toNat (by (first | (clear hm hnf; omega) | omega))
  rw [show ((d.toNat : Nat) : Int) = d by (first | (clear hm hnf; omega) | omega), show ((q.toNat : Nat) : Int) = q by (first | (clear hm hnf; omega) | omega)] at h6 h8
  rw [show (((A 0 (fd 63)).toNat : Nat) : Int) = A 0 (fd 63) by (first | (clear hm hnf; omega) | omega)] at h8
  have h7 := h6 h.1
  unfold AL at ht
  exact ⟨by (first | (clear hm hnf; omega) | omega), h7.1, by (first | (clear hm hnf; omega) | omega), h7.2⟩
theorem io_ge {d y : Int} (d0 : 0 ≤ d) (d1 : d < 256) (y0 : 0 ≤ y) (y1 : y < 256) : d ≤ io d y := by
  rw [io_nat ⟨by (first | (clear hm hnf; omega) | omega), by (first | (clear hm hnf; omega) | omega)⟩ ⟨by (first | (clear hm hnf; omega) | omega), by (first | (clear hm hnf; omega) | omega)⟩ d0 y0]
  have := @Nat.left_le_or d.toNat y.toNat
  omega
/-- some cell can be next -/
theorem CB_ex {A : qA} {t d k : Int} (hi : IX A k) (ht : AL A t) (n0 : 0 ≤ A 0 (fd 63)) (n1 : A 0 (fd 63) ≤ 8) (d0 : 0 ≤ d) (d1 : d < t) : ∃ q, 0 ≤ q ∧ q < A 0 (fd 63) ∧ CB A d q := by
  have hp := AL_p ht n0 n1
  have h7 := kb7 (A 0 (fd 63)).toNat (by (first | (clear hm hnf; omega) | omega)) d.toNat (by (first | (clear hm hnf; omega) | omega))
  rw [show ((d.toNat : Nat) : Int) = d by (first | (clear hm hnf; omega) | omega)] at h7
  obtain ⟨a, b, c⟩ := h7
  refine ⟨(lcN d 8 0 : Nat), by (first | (clear hm hnf; omega) | omega), by (first | (clear hm hnf; omega) | omega), b, fun j j0 j1 hq => ?_⟩
  by_cases hj : j < (lcN d 8 0 : Nat)
  · have := c j.toNat (by (first | (clear hm hnf; omega) | omega))
    rw [show ((j.toNat : Nat) : Int) = j by (first | (clear hm hnf; omega) | omega)] at this
    exact this hq.2.2
  · by_cases he : j = (lcN d 8 0 : Nat)
    · rw [he] at hq; omega
    · have := hi.1 (lcN d 8 0 : Nat) j (by (first | (clear hm hnf; omega) | omega)) (by (first | (clear hm hnf; omega) | omega)) j1
      omega
def GD (A : qA) (t d : Int) : Prop := (0 ≤ A 63 d ∧ A 63 d ≤ 6000 * (t - d)) ∧ (d < t → ∃ q, 0 ≤ q ∧ q < A 0 (fd 63) ∧ CB A d q ∧ A 63 d = CO A d q)
def GDs (A : qA) (t l : Int) : Prop := ∀ d, l ≤ d → d ≤ t → GD A t d
def IN (A : qA) (t d k : Int) : Prop := (0 ≤ A 63 d ∧ A 63 d ≤ 1000000000) ∧ ((d = t ∧ A 63 d = 0) ∨ (d < t ∧ ((A 63 d = 1000000000 ∧ ∀ i, 0 ≤ i → i < k → ¬ CB A d i) ∨ (∃ q, 0 ≤ q ∧ q < k ∧ CB A d q ∧ A 63 d = CO A d q ∧ A 63 d ≤ 6000 * (t - d)))))
theorem GDs_u {A A' : qA} {t d l j v : Int} (h : GDs A t l) (h63 : A' 63 = (fun i : Int => if i = j then v else A 63 i)) (hj : j = d) (hl : l = d + 1) (d0 : 0 ≤ d) (t1 : t ≤ 255) (n1 : A 0 (fd 63) ≤ 8) (h50 : A' 50 = A 50) (h21 : A' 21 = A 21) (hn : A' 0 (fd 63) = A 0 (fd 63)) : GDs A' t l := by
  intro e e0 e1
  have hg := h e e0 e1
  unfold GD at hg ⊢
  have he := up_n h63 (i := e) (by (first | (clear hm hnf; omega) | omega))
  rw [he, hn]
  refine ⟨hg.1, fun q => ?_⟩
  obtain ⟨q, q0, q1, q2, q3⟩ := hg.2 q
  have hs := sl_bd (b := q) 7 (by decide) q0 (by (first | (clear hm hnf; omega) | omega))
  have hs2 : sl 1 q < 256 := by
    have : ((2 ^ 7 : Nat) : Int) = 128 := by decide
    omega
  have hio := io_ge (d := e) (y := sl 1 q) (by (first | (clear hm hnf; omega) | omega)) (by (first | (clear hm hnf; omega) | omega)) (by (first | (clear hm hnf; omega) | omega)) hs2
  refine ⟨q, q0, q1, (CB_k h50 hn).mpr q2, ?_⟩
  rw [CO_k h50 h21 hn (up_n h63 (by (first | (clear hm hnf; omega) | omega)))]
  exact q3
theorem IN_0 {A A' : qA} {t d j v k : Int} (h63 : A' 63 = (fun i : Int => if i = j then v else A 63 i)) (hj : j = d) (hk : k = 0) (hv : (d = t ∧ v = 0) ∨ (d < t ∧ v = 1000000000)) : IN A' t d k := by
  subst hj hk
  unfold IN
  rw [up_e h63]
  refine ⟨by (first | (clear hm hnf; omega) | omega), ?_⟩
  rcases hv with q | q
  · exact Or.inl q
  · exact Or.inr ⟨q.1, Or.inl ⟨q.2, fun i a b => by (first | (clear hm hnf; omega) | omega)⟩⟩
theorem IN_n {A : qA} {t d k k' : Int} (h : IN A t d k) (hn : ¬ CB A d k) (hk : k' = k + 1) : IN A t d k' := by
  subst hk
  refine ⟨h.1, ?_⟩
  rcases h.2 with q | ⟨q, z⟩
  · exact Or.inl q
  · refine Or.inr ⟨q, ?_⟩
    rcases z with ⟨z, w⟩ | ⟨i, i0, i1, i2⟩
    · refine Or.inl ⟨z, fun i a b => ?_⟩
      by_cases hi : i = k
      · rw [hi]; exact hn
      · exact w i a (by (first | (clear hm hnf; omega) | omega))
    · exact Or.inr ⟨i, i0, by (first | (clear hm hnf; omega) | omega), i2⟩
theorem IN_s {A A' : qA} {t d k k' j v : Int} (h : IN A t d k) (h63 : A' 63 = (fun i : Int => if i = j then v else A 63 i)) (hj : j = d) (k0 : 0 ≤ k) (hcb : CB A d k) (hlt : d < t) (d0 : 0 ≤ d) (t1 : t ≤ 255) (hk8 : k ≤ 7) (hc0 : 0 ≤ CO A d k) (hc1 : CO A d k ≤ 6000 * (t - d)) (hio : d < io d (sl 1 k)) (hv : (v = A 63 d ∧ A 63 d < CO A d k) ∨ (v = CO A d k ∧ CO A d k ≤ A 63 d)) (h50 : A' 50 = A 50) (h21 : A' 21 = A 21) (hn : A' 0 (fd 63) = A 0 (fd 63)) (hk : k' = k + 1) : IN A' t d k' := by
  subst hj hk
  unfold IN
  rw [up_e h63]
  have hck : CO A' j k = CO A j k := CO_k h50 h21 hn (up_n h63 (by (first | (clear hm hnf; omega) | omega)))
  have hcb' : CB A' j k := (CB_k h50 hn).mpr hcb
  have h1 := h.1
  refine ⟨by (first | (clear hm hnf; omega) | omega), Or.inr ⟨hlt, Or.inr ?_⟩⟩
  rcases hv with ⟨q, z⟩ | ⟨q, z⟩
  · rcases h.2 with w | ⟨_, w⟩
    · omega
    · rcases w with ⟨w, _⟩ | ⟨i, i0, i1, i2, i3, i4⟩
      · omega
      · by_cases hio2 : io j (sl 1 i) = j
        · exfalso
          have h6 : CO A j i = CO A j i := rfl
          have hp := kb6 i.toNat (by (first | (clear hm hnf; omega) | omega)) j.toNat (by (first | (clear hm hnf; omega) | omega))
          rw [show ((j.toNat : Nat) : Int) = j by (first | (clear hm hnf; omega) | omega), show ((i.toNat : Nat) : Int) = i by (first | (clear hm hnf; omega) | omega)] at hp
          have := (hp i2.1).1
          omega
        · exact ⟨i, i0, by (first | (clear hm hnf; omega) | omega), (CB_k h50 hn).mpr i2, by rw [CO_k h50 h21 hn (up_n h63 hio2), q]; exact i3, by (first | (clear hm hnf; omega) | omega)⟩
  · exact ⟨k, k0, by (first | (clear hm hnf; omega) | omega), hcb', by rw [hck]; exact q, by (first | (clear hm hnf; omega) | omega)⟩
theorem GDs_n {A : qA} {t d l l' n k : Int} (h : GDs A t l) (hl : l = d + 1) (hl' : l' = d) (hi : IN A t d n) (hn : n ≤ A 0 (fd 63)) (hn2 : A 0 (fd 63) ≤ n) (hc : IX A k) (ht : AL A t) (n0 : 0 ≤ A 0 (fd 63)) (n1 : A 0 (fd 63) ≤ 8) (d0 : 0 ≤ d) : GDs A t l' := by
  intro e e0 e1
  by_cases he : e = d
  · subst he
    rcases hi.2 with ⟨q, z⟩ | ⟨q, z⟩
    · exact ⟨by (first | (clear hm hnf; omega) | omega), fun w => by (first | (clear hm hnf; omega) | omega)⟩
    · rcases z with ⟨_, w⟩ | ⟨i, i0, i1, i2, i3, i4⟩
      · obtain ⟨q, q0, q1, q2⟩ := CB_ex hc ht n0 n1 d0 q
        exact absurd q2 (w q q0 (by (first | (clear hm hnf; omega) | omega)))
      · exact ⟨⟨hi.1.1, i4⟩, fun _ => ⟨i, i0, by (first | (clear hm hnf; omega) | omega), i2, i3⟩⟩
  · exact h e (by (first | (clear hm hnf; omega) | omega)) e1
theorem GDs_0 {A : qA} {t l : Int} (hl : t < l) : GDs A t l := fun d a b => by (first | (clear hm hnf; omega) | omega)
theorem GDs_e {A : qA} {t l : Int} (h : GDs A t l) (ht : AL A t) (hl : l ≤ 0) : GDs A (sl 1 (A 0 (fd 63)) - 1) 0 := by
  unfold AL at ht
  rw [← ht]
  exact fun d a b => h d (by (first | (clear hm hnf; omega) | omega)) b
def EX (A : qA) (d q : Int) : Prop := ∃ i, q ≤ i ∧ i < A 0 (fd 63) ∧ CB A d i ∧ A 63 d = CO A d i
theorem EX_0 {A : qA} {t d q : Int} (h : GDs A t 0) (d0 : 0 ≤ d) (d1 : d < t) (hq : q = 0) : EX A d q := by
  obtain ⟨i, i0, i1, i2, i3⟩ := (h d d0 (by (first | (clear hm hnf; omega) | omega))).2 d1
  exact ⟨i, by (first | (clear hm hnf; omega) | omega), i1, i2, i3⟩
theorem EX_1 {A : qA} {d q q' : Int} (h : EX A d q) (hn : ¬ CB A d q) (hq : q' = q + 1) : EX A d q' := by
  obtain ⟨i, i0, i1, i2, i3⟩ := h
  by_cases he : i = q
  · rw [he] at i2; exact absurd i2 hn
  · exact ⟨i, by (first | (clear hm hnf; omega) | omega), i1, i2, i3⟩
theorem EX_2 {A : qA} {d q q' : Int} (h : EX A d q) (hn : CO A d q ≠ A 63 d) (hq : q' = q + 1) : EX A d q' := by
  obtain ⟨i, i0, i1, i2, i3⟩ := h
  by_cases he : i = q
  · rw [he] at i3; exact absurd i3.symm hn
  · exact ⟨i, by (first | (clear hm hnf; omega) | omega), i1, i2, i3⟩
theorem EX_b {A : qA} {d q : Int} (h : EX A d q) : q < A 0 (fd 63) := by
  obtain ⟨i, i0, i1, i2, i3⟩ := h
  omega
theorem AL_0 (A : qA) : AL A (sl 1 (A 0 (fd 63)) - 1) := rfl
theorem bc00 : bc 0 8 = 0 := by decide +kernel
def fM_lays2_c15 (rec : Nat → List Int → qA → Int × qA) (l1 l3 k : Int) (B : qA) : Int × qA := (if k < 48 then qlet (jsr l1 k) fun v18 => qlet ((1 : Int)) fun v20 => qlet (ja v18 v20) fun v22 => qlet ((0 : Int)) fun v24 => qlet (jc v22 v24) fun v26 => (if v26 = 0 then qlet (k + 1) fun v57 => rec 15 [l1, l3, v57] B else qlet (B 0 (fd 63)) fun v29 => (if v29 = l3 then (0, B) else qlet (B 0 (fd 63)) fun v33 => qlet (qu B 50 v29 k) fun A37 => qlet (A37 0 (fd 63)) fun v43 => qlet (v29 + 1) fun v47 => qlet (qu A37 0 (fd 63) v47) fun A49 => qlet (k + 1) fun v55 => rec 15 [l1, l3, v55] A49)) else (1, B))
def fM_lays2_L : Nat → Nat → List Int → qA → Int × qA
  | 0 => fun _ _ B => (0, B)
  | nF + 1 => fun k zs B => bif Nat.beq k 15 then (match zs with | [l1, l3, k] => fM_lays2_c15 (fM_lays2_L nF) l1 l3 k B | _ => (0, B)) else (0, B)
theorem fM_lays2_L15 (nF : Nat) (l1 l3 k : Int) (B : qA) : fM_lays2_L (nF + 1) 15 [l1, l3, k] B = fM_lays2_c15 (fM_lays2_L nF) l1 l3 k B := (congrFun (congrFun (congrFun (fM_lays2_L.eq_2 nF) 15) [l1, l3, k]) B).trans (qL1 rfl rfl)
def fM_lays2 (x t : Int) (A : qA) : Int × qA := qlet ((0 : Int)) fun v3 => qlet (jc x v3) fun v5 => (if 0 < v5 then qlet (jc x (qnL 281474976710656)) fun v8 => (if v8 < 0 then qlet (qu A 0 (fd 63) 0) fun A11 => (fM_lays2_L 100000) 15 [x, t, 0] A11 else (0, A)) else (0, A))
def sM_lays2 : qS := fun as A K => ∃ x t : Int, as = [rf 0, nl x, ni t] ∧ (iva IM A ∧ ivf JM A ∧ 0 ≤ t ∧ t ≤ 8) ∧ (∀ A' : qA, iva IM A' → ivf JM A' → frm [50] [(0, 63)] A A' → ∀ r : Int, 0 ≤ r → r ≤ 1 → (r = 0 ∨ A' 0 (fd 63) ≤ t) → (r = 0 ∨ IX A' 48) → (r = (fM_lays2 x t A).1) → (A' = (fM_lays2 x t A).2) → K (some (ni r)) A')
theorem okM_lays2 : okM LM 1 217 sM_lays2 := by
  refine qmeth [] false [] 55 rfl trivial ?_
  rintro _ A K hA has ⟨x, t, rfl, ⟨i0, j0, p1, p2⟩, hK⟩
  have rg_x : rngL x := has (nl x) (by simp)
  have rg_t : rng t := has (ni t) (by simp)
  have f0 := frm_0 [50] [(0, 63)] A
  have hb_0_63 := ivf_at j0 2 rfl
  have hT : _ = fM_lays2 x t A := (fM_lays2.eq_1 x t A).symm
  refine ⟨Nat.le_of_ble_eq_true rfl, [(15, [(0, 2, 0), (1, 1, 0), (3, 0, 0), (4, 0, 0)], fun zs B nn => match zs with | [l1, l3, k] => iva IM B ∧ ivf JM B ∧ frm [50] [(0, 63)] A B ∧ nn = (48 - k : Int).toNat ∧ (l1 = x) ∧ (l3 = t) ∧ (0 ≤ k) ∧ (k ≤ 48) ∧ (B 0 (fd 63) ≤ t) ∧ (IX B k) ∧ (∃ nf : Nat, nn < nf ∧ fM_lays2_L nf 15 [l1, l3, k] B = fM_lays2 x t A) | _ => False)], ?_, ?_⟩
  · refine ⟨⟨rfl, ?_⟩, trivial⟩
    · refine fun l1 l3 k B mm hB hz hI => ?_
      obtain ⟨i1, j1, f1, hm, c0, c1, c2, c3, c4, c5, ⟨nf, hnf, hT⟩⟩ := hI
      obtain ⟨hz_l1, hz_l3, hz_k, _⟩ := hz
      obtain ⟨ng, rfl⟩ : ∃ k, nf = k + 1 := ⟨nf - 1, by omega⟩
      replace hT := (fM_lays2_c15.eq_1 (fM_lays2_L ng) l1 l3 k B).symm.trans ((fM_lays2_L15 ng l1 l3 k B).symm.trans hT)
      have hc_0_63 := ivf_at j1 2 rfl
      refine And.intro (fun h17 => ?_) (fun h17 => ?_)
      · replace hT := (if_neg (Int.not_lt.mpr h17)).symm.trans hT
        exact And.intro (by (first | (clear hm hnf; omega) | omega)) (hK _ i1 j1 f1 _ (by (first | (clear hm hnf; omega) | omega)) (by (first | (clear hm hnf; omega) | omega)) (by (first | (clear hm hnf; omega) | omega)) (Or.inr (IX_k (by assumption : IX B k) rfl rfl (by (first | (clear hm hnf; omega) | omega)))) (congrArg Prod.fst hT) (congrArg Prod.snd hT))
      · replace hT := (if_pos h17).symm.trans hT
        refine fun v18 e19 => ?_
        replace hT := qlc e19 hT
        refine fun (v20 : Int) (e21 : v20 = 1) => ?_
        replace hT := qlc e21 hT
        refine fun v22 e23 => ?_
        replace hT := qlc e23 hT
        refine fun (v24 : Int) (e25 : v24 = 0) => ?_
        replace hT := qlc e25 hT
        refine fun v26 e27 => ?_
        replace hT := qlc e27 hT
        refine And.intro (fun h28 => ?_) (fun h28 => ?_)
        · replace hT := (if_neg h28).symm.trans hT
          refine fun v29 gv29 e30 => ?_
          replace hT := qlc e30 hT
          have b31 := ivf_at j1 2 rfl
          refine And.intro (fun h32 => ?_) (fun h32 => ?_)
          · replace hT := (if_neg h32).symm.trans hT
            refine fun v33 gv33 e34 => ?_
            replace hT := qlc e34 hT
            have b35 := ivf_at j1 2 rfl
            have q36 : v29 = v33 := (e34.trans e30.symm).symm
            subst q36
            refine And.intro (by (first | (clear hm hnf; omega) | omega)) (fun A37 e38 => ?_)
            replace hT := qlc e38 hT
            have i39 := iva_st i1 e38 (And.intro (by (first | (clear hm hnf; omega) | omega)) trivial)
            have j40 := ivf_sa j1 e38 rfl
            have f41 := frm_s f1 e38 rfl
            have t42 : A37 0 (fd 63) = B 0 (fd 63) := (congrFun (st_a e38 rfl) _)
            refine fun v43 gv43 e44 => ?_
            replace hT := qlc e44 hT
            have b45 := ivf_at j40 2 rfl
            have q46 : v29 = v43 := (e44.trans ((congrFun (st_a e38 rfl) _).trans e34.symm)).symm
            subst q46
            refine fun v47 e48 => ?_
            replace hT := qlc e48 hT
            refine And.intro (by (first | (clear hm hnf; omega) | omega)) (fun A49 e50 => ?_)
            replace hT := qlc e50 hT
            have i51 := iva_sf i39 e50 rfl
            have j52 := ivf_st j40 e50 (And.intro (by (first | (clear hm hnf; omega) | omega)) trivial)
            have f53 := frm_sf f41 e50 rfl
            have t54 := st_v e50
            refine fun v55 e56 => ?_
            replace hT := qlc e56 hT
            exact And.intro (by (first | (clear hm hnf; omega) | omega)) (Exists.intro (48 - v55 : Int).toNat (And.intro (by first | exact qtn hm (by (try clear hm hnf); omega) | omega) (And.intro i51 (And.intro j52 (And.intro f53 (And.intro rfl (And.intro (by (first | (clear hm hnf; omega) | omega)) (And.intro (by (first | (clear hm hnf; omega) | omega)) (And.intro (by (first | (clear hm hnf; omega) | omega)) (And.intro (by (first | (clear hm hnf; omega) | omega)) (And.intro (by (first | (clear hm hnf; omega) | omega)) (And.intro (by first | exact IX_0 (by (first | (clear hm hnf; omega) | omega)) | exact IX_u (by assumption : IX B k) (Eq.trans (st_a e50 rfl) (st_u e38)) (by (first | (clear hm hnf; omega) | omega)) (by (first | (clear hm hnf; omega) | omega)) (by (first | (clear hm hnf; omega) | omega)) (by (first | (clear hm hnf; omega) | omega)) | exact IX_k (by assumption : IX B k) rfl rfl (by (first | (clear hm hnf; omega) | omega))) (Exists.intro ng (And.intro (by first | exact qtm hm hnf (by (try clear hm hnf); omega) | omega) hT))))))))))))))
          · replace hT := (if_pos h32).symm.trans hT
            exact And.intro (by (first | (clear hm hnf; omega) | omega)) (hK _ i1 j1 f1 _ (by (first | (clear hm hnf; omega) | omega)) (by (first | (clear hm hnf; omega) | omega)) (by first | assumption | omega | simp_all) (by first | assumption | omega | simp_all) (congrArg Prod.fst hT) (congrArg Prod.snd hT))
        · replace hT := (if_pos h28).symm.trans hT
          refine fun v57 e58 => ?_
          replace hT := qlc e58 hT
          exact And.intro (by (first | (clear hm hnf; omega) | omega)) (Exists.intro (48 - v57 : Int).toNat (And.intro (by first | exact qtn hm (by (try clear hm hnf); omega) | omega) (And.intro i1 (And.intro j1 (And.intro f1 (And.intro rfl (And.intro (by (first | (clear hm hnf; omega) | omega)) (And.intro (by (first | (clear hm hnf; omega) | omega)) (And.intro (by (first | (clear hm hnf; omega) | omega)) (And.intro (by (first | (clear hm hnf; omega) | omega)) (And.intro (by (first | (clear hm hnf; omega) | omega)) (And.intro (by first | exact IX_0 (by (first | (clear hm hnf; omega) | omega)) | exact IX_u (by assumption : IX B k) rfl (by (first | (clear hm hnf; omega) | omega)) (by (first | (clear hm hnf; omega) | omega)) (by (first | (clear hm hnf; omega) | omega)) (by (first | (clear hm hnf; omega) | omega)) | exact IX_k (by assumption : IX B k) rfl rfl (by (first | (clear hm hnf; omega) | omega))) (Exists.intro ng (And.intro (by first | exact qtm hm hnf (by (try clear hm hnf); omega) | omega) hT))))))))))))))
  · refine fun (v3 : Int) (e4 : v3 = 0) => ?_
    replace hT := qlc e4 hT
    refine fun v5 e6 => ?_
    replace hT := qlc e6 hT
    refine And.intro (fun h7 => ?_) (fun h7 => ?_)
    · replace hT := (if_neg (Int.not_lt.mpr h7)).symm.trans hT
      exact And.intro (by (first | (clear hm hnf; omega) | omega)) (hK _ i0 j0 f0 _ (by (first | (clear hm hnf; omega) | omega)) (by (first | (clear hm hnf; omega) | omega)) (by first | assumption | omega | simp_all) (by first | assumption | omega | simp_all) (congrArg Prod.fst hT) (congrArg Prod.snd hT))
    · replace hT := (if_pos h7).symm.trans hT
      refine fun v8 e9 => ?_
      replace hT := qlc e9 hT
      refine And.intro (fun h10 => ?_) (fun h10 => ?_)
      · replace hT := (if_pos h10).symm.trans hT
        refine fun A11 e12 => ?_
        replace hT := qlc e12 hT
        have i13 := iva_sf i0 e12 rfl
        have j14 := ivf_st j0 e12 (And.intro (by (first | (clear hm hnf; omega) | omega)) trivial)
        have f15 := frm_sf f0 e12 rfl
        have t16 := st_v e12
        exact Exists.intro (48 - 0 : Int).toNat (And.intro i13 (And.intro j14 (And.intro f15 (And.intro rfl (And.intro (by (first | (clear hm hnf; omega) | omega)) (And.intro (by (first | (clear hm hnf; omega) | omega)) (And.intro (by (first | (clear hm hnf; omega) | omega)) (And.intro (by (first | (clear hm hnf; omega) | omega)) (And.intro (by (first | (clear hm hnf; omega) | omega)) (And.intro (by first | exact IX_0 (by (first | (clear hm hnf; omega) | omega)) | exact IX_u (by assumption : IX B k) hK (by (first | (clear hm hnf; omega) | omega)) (by (first | (clear hm hnf; omega) | omega)) (by (first | (clear hm hnf; omega) | omega)) (by (first | (clear hm hnf; omega) | omega)) | exact IX_k (by assumption : IX B k) rfl rfl (by (first | (clear hm hnf; omega) | omega))) (Exists.intro 100000 (And.intro (by (first | (clear hm hnf; omega) | omega)) hT))))))))))))
      · replace hT := (if_neg (Int.not_lt.mpr h10)).symm.trans hT
        exact And.intro (by (first | (clear hm hnf; omega) | omega)) (hK _ i0 j0 f0 _ (by (first | (clear hm hnf; omega) | omega)) (by (first | (clear hm hnf; omega) | omega)) (by first | assumption | omega | simp_all) (by first | assumption | omega | simp_all) (congrArg Prod.fst hT) (congrArg Prod.snd hT))
theorem pM_lays2 {x t : Int} {A : qA} (hA : qokA LM A) (rg_x : rngL x) (p0 : iva IM A) (p1 : ivf JM A) (p2 : 0 ≤ t) (p3 : t ≤ 8) : qokA LM (fM_lays2 x t A).2 ∧ iva IM (fM_lays2 x t A).2 ∧ ivf JM (fM_lays2 x t A).2 ∧ frm [50] [(0, 63)] A (fM_lays2 x t A).2 ∧ (0 ≤ (fM_lays2 x t A).1 ∧ (fM_lays2 x t A).1 ≤ 1) ∧ ((fM_lays2 x t A).1 = 0 ∨ (fM_lays2 x t A).2 0 (fd 63) ≤ t) ∧ ((fM_lays2 x t A).1 = 0 ∨ IX (fM_lays2 x t A).2 48) := by
  obtain ⟨r, B, hB, _, hk⟩ := okM_ex okM_lays2 (as := [rf 0, nl x, ni t]) (K := fun _ B => B = (fM_lays2 x t A).2 ∧ iva IM (fM_lays2 x t A).2 ∧ ivf JM (fM_lays2 x t A).2 ∧ frm [50] [(0, 63)] A (fM_lays2 x t A).2 ∧ (0 ≤ (fM_lays2 x t A).1 ∧ (fM_lays2 x t A).1 ≤ 1) ∧ ((fM_lays2 x t A).1 = 0 ∨ (fM_lays2 x t A).2 0 (fd 63) ≤ t) ∧ ((fM_lays2 x t A).1 = 0 ∨ IX (fM_lays2 x t A).2 48)) hA (qoks_c (show qok (rf _) from trivial) (qoks_c (rg_x) (qoks_c (show rng t from ⟨by (first | (clear hm hnf; omega) | omega), by (first | (clear hm hnf; omega) | omega)⟩) qoks_n))) ⟨x, t, rfl, ⟨p0, p1, p2, p3⟩, fun A9 i9 j9 f9 r9 g8 g9 x0 x1 x2 x3 => (by rw [← x3]; (try rw [← x2]); exact ⟨rfl, i9, j9, f9, ⟨g8, g9⟩, x0, x1⟩)⟩
  exact ⟨hk.1 ▸ hB, hk.2⟩
def sM_takesOf2 : qS := fun as A K => ∃ c : Int, as = [ni c] ∧ (0 ≤ c ∧ c ≤ 47) ∧ (K (some (ni (1 + c % 6))) A)
theorem okM_takesOf2 : okM LM 1 237 sM_takesOf2 := by
  refine qmeth [] false [] 12 rfl trivial ?_
  rintro _ A K hA has ⟨c, rfl, ⟨p1, p2⟩, hK⟩
  have rg_c : rng c := has (ni c) (by simp)
  refine ⟨Nat.le_of_ble_eq_true rfl, [], trivial, ?_⟩
  refine And.intro (by (first | (clear hm hnf; omega) | omega)) (fun v3 e4 => ?_)
  have h5 := qm_nn (a := c) (b := 6) (by (first | (clear hm hnf; omega) | omega))
  refine fun v6 e7 => ?_
  refine And.intro (by (first | (clear hm hnf; omega) | omega)) (?_)
  have hq : v6 = 1 + c % 6 := by (first | (clear hm hnf; omega) | omega)
  rw [hq]
  exact hK
def fM_hoursOf2_c4 (rec : Nat → List Int → qA → Int) (l1 s q : Int) (A : qA) : Int := qlet (A 0 (fd 63)) fun v3 => (if q < v3 then qlet (sr l1 q) fun v7 => qlet (ia v7 1) fun v10 => (if v10 = 1 then qlet (A 50 q) fun v18 => qlet (s + (1 + v18 % 6)) fun v21 => qlet (q + 1) fun v23 => rec 4 [l1, v21, v23] A else qlet (s + 0) fun v14 => qlet (q + 1) fun v16 => rec 4 [l1, v14, v16] A) else s)
def fM_hoursOf2_L : Nat → Nat → List Int → qA → Int
  | 0 => fun _ _ B => 0
  | nF + 1 => fun k zs B => bif Nat.beq k 4 then (match zs with | [l1, s, q] => fM_hoursOf2_c4 (fM_hoursOf2_L nF) l1 s q B | _ => 0) else 0
theorem fM_hoursOf2_L4 (nF : Nat) (l1 s q : Int) (B : qA) : fM_hoursOf2_L (nF + 1) 4 [l1, s, q] B = fM_hoursOf2_c4 (fM_hoursOf2_L nF) l1 s q B := (congrFun (congrFun (congrFun (fM_hoursOf2_L.eq_2 nF) 4) [l1, s, q]) B).trans (qL1 rfl rfl)
def fM_hoursOf2 (d : Int) (A : qA) : Int := (fM_hoursOf2_L 100000) 4 [d, 0, 0] A
def sM_hoursOf2 : qS := fun as A K => ∃ d : Int, as = [rf 0, ni d] ∧ (iva IM A ∧ ivf JM A ∧ 0 ≤ d ∧ d ≤ 255) ∧ (∀ r : Int, 0 ≤ r → r ≤ 48 → (r = ho (A 50) d (A 0 (fd 63))) → (r = fM_hoursOf2 d A) → K (some (ni r)) A)
theorem okM_hoursOf2 : okM LM 2 238 sM_hoursOf2 := by
  refine qmeth [] false [(237, sM_takesOf2)] 35 rfl ⟨okM_takesOf2.le (by decide), trivial⟩ ?_
  rintro _ A K hA has ⟨d, rfl, ⟨i0, j0, p1, p2⟩, hK⟩
  have rg_d : rng d := has (ni d) (by simp)
  have f0 := frm_0 [] [] A
  have hb_0_63 := ivf_at j0 2 rfl
  have hT : _ = fM_hoursOf2 d A := (fM_hoursOf2.eq_1 d A).symm
  refine ⟨Nat.le_of_ble_eq_true rfl, [(4, [(0, 2, 0), (1, 0, 0), (2, 0, 0), (3, 0, 0)], fun zs B nn => match zs with | [l1, s, q] => A = B ∧ nn = (8 - q : Int).toNat ∧ (l1 = d) ∧ (0 ≤ q) ∧ (q ≤ 8) ∧ (q ≤ A 0 (fd 63)) ∧ (0 ≤ s) ∧ (s ≤ 6 * q) ∧ (s = ho (A 50) d q) ∧ (∃ nf : Nat, nn < nf ∧ fM_hoursOf2_L nf 4 [l1, s, q] B = fM_hoursOf2 d A) | _ => False)], ?_, ?_⟩
  · refine ⟨⟨rfl, ?_⟩, trivial⟩
    · refine fun l1 s q B mm hB hz hI => ?_
      obtain ⟨rfl, hm, c0, c1, c2, c3, c4, c5, c6, ⟨nf, hnf, hT⟩⟩ := hI
      obtain ⟨hz_l1, hz_s, hz_q, _⟩ := hz
      obtain ⟨ng, rfl⟩ : ∃ k, nf = k + 1 := ⟨nf - 1, by omega⟩
      replace hT := (fM_hoursOf2_c4.eq_1 (fM_hoursOf2_L ng) l1 s q A).symm.trans ((fM_hoursOf2_L4 ng l1 s q A).symm.trans hT)
      have hc_0_63 := ivf_at j0 2 rfl
      refine fun v3 gv3 e4 => ?_
      replace hT := qlc e4 hT
      have b5 := ivf_at j0 2 rfl
      refine And.intro (fun h6 => ?_) (fun h6 => ?_)
      · replace hT := (if_neg (Int.not_lt.mpr h6)).symm.trans hT
        exact hK _ (by (first | (clear hm hnf; omega) | omega)) (by (first | (clear hm hnf; omega) | omega)) (by rw [show A 0 (fd 63) = q by (first | (clear hm hnf; omega) | omega)]; assumption) hT
      · replace hT := (if_pos h6).symm.trans hT
        refine fun v7 e8 => ?_
        replace hT := qlc e8 hT
        have h9 := sr_bd (a := l1) (b := q) (by (first | (clear hm hnf; omega) | omega)) (by (first | (clear hm hnf; omega) | omega))
        refine fun v10 e11 => ?_
        replace hT := qlc e11 hT
        have h12 := ia_bd (a := v7) (b := 1) (by (first | (clear hm hnf; omega) | omega)) (by (first | (clear hm hnf; omega) | omega))
        have hbt : ia (sr d q) 1 = v10 := by subst_vars; rfl
        refine And.intro (fun h13 => ?_) (fun h13 => ?_)
        · replace hT := (if_neg h13).symm.trans hT
          refine fun v14 e15 => ?_
          replace hT := qlc e15 hT
          refine fun v16 e17 => ?_
          replace hT := qlc e17 hT
          exact And.intro (by (first | (clear hm hnf; omega) | omega)) (And.intro (by (first | (clear hm hnf; omega) | omega)) (Exists.intro (8 - v16 : Int).toNat (And.intro (by first | exact qtn hm (by (try clear hm hnf); omega) | omega) (And.intro rfl (And.intro rfl (And.intro (by (first | (clear hm hnf; omega) | omega)) (And.intro (by (first | (clear hm hnf; omega) | omega)) (And.intro (by (first | (clear hm hnf; omega) | omega)) (And.intro (by (first | (clear hm hnf; omega) | omega)) (And.intro (by (first | (clear hm hnf; omega) | omega)) (And.intro (by (first | (clear hm hnf; omega) | omega)) (And.intro (by first | rfl | (rw [show v16 = q + 1 by (first | (clear hm hnf; omega) | omega), ho_s (by (first | (clear hm hnf; omega) | omega))]; first | (rw [if_pos (by (first | (clear hm hnf; omega) | omega))]; omega) | (rw [if_neg (by (first | (clear hm hnf; omega) | omega))]; omega))) (Exists.intro ng (And.intro (by first | exact qtm hm hnf (by (try clear hm hnf); omega) | omega) hT))))))))))))))
        · replace hT := (if_pos h13).symm.trans hT
          refine And.intro (by (first | (clear hm hnf; omega) | omega)) (fun v18 gv18 e19 => ?_)
          replace hT := qlc e19 hT
          have b20 := iva_at i0 21 rfl (i := q) (by (first | (clear hm hnf; omega) | omega)) (by (first | (clear hm hnf; omega) | omega))
          refine Exists.intro v18 (And.intro rfl (And.intro (And.intro (by (first | (clear hm hnf; omega) | omega)) (by (first | (clear hm hnf; omega) | omega))) ?_))
          refine fun v21 e22 => ?_
          replace hT := qlc e22 hT
          refine fun v23 e24 => ?_
          replace hT := qlc e24 hT
          exact And.intro (by (first | (clear hm hnf; omega) | omega)) (And.intro (by (first | (clear hm hnf; omega) | omega)) (Exists.intro (8 - v23 : Int).toNat (And.intro (by first | exact qtn hm (by (try clear hm hnf); omega) | omega) (And.intro rfl (And.intro rfl (And.intro (by (first | (clear hm hnf; omega) | omega)) (And.intro (by (first | (clear hm hnf; omega) | omega)) (And.intro (by (first | (clear hm hnf; omega) | omega)) (And.intro (by (first | (clear hm hnf; omega) | omega)) (And.intro (by (first | (clear hm hnf; omega) | omega)) (And.intro (by (first | (clear hm hnf; omega) | omega)) (And.intro (by first | rfl | (rw [show v23 = q + 1 by (first | (clear hm hnf; omega) | omega), ho_s (by (first | (clear hm hnf; omega) | omega))]; first | (rw [if_pos (by (first | (clear hm hnf; omega) | omega))]; omega) | (rw [if_neg (by (first | (clear hm hnf; omega) | omega))]; omega))) (Exists.intro ng (And.intro (by first | exact qtm hm hnf (by (try clear hm hnf); omega) | omega) hT))))))))))))))
  · exact Exists.intro (8 - 0 : Int).toNat (And.intro rfl (And.intro rfl (And.intro (by (first | (clear hm hnf; omega) | omega)) (And.intro (by (first | (clear hm hnf; omega) | omega)) (And.intro (by (first | (clear hm hnf; omega) | omega)) (And.intro (by (first | (clear hm hnf; omega) | omega)) (And.intro (by (first | (clear hm hnf; omega) | omega)) (And.intro (by (first | (clear hm hnf; omega) | omega)) (And.intro (by first | rfl | (rw [show 0 = q + 1 by (first | (clear hm hnf; omega) | omega), ho_s (by (first | (clear hm hnf; omega) | omega))]; first | (rw [if_pos (by (first | (clear hm hnf; omega) | omega))]; omega) | (rw [if_neg (by (first | (clear hm hnf; omega) | omega))]; omega))) (Exists.intro 100000 (And.intro (by (first | (clear hm hnf; omega) | omega)) hT)))))))))))
theorem pM_hoursOf2 {d : Int} {A : qA} (hA : qokA LM A) (p0 : iva IM A) (p1 : ivf JM A) (p2 : 0 ≤ d) (p3 : d ≤ 255) : (0 ≤ (fM_hoursOf2 d A) ∧ (fM_hoursOf2 d A) ≤ 48) ∧ ((fM_hoursOf2 d A) = ho (A 50) d (A 0 (fd 63))) := by
  obtain ⟨r, B, hB, _, hk⟩ := okM_ex okM_hoursOf2 (as := [rf 0, ni d]) (K := fun _ B => B = A ∧ (0 ≤ (fM_hoursOf2 d A) ∧ (fM_hoursOf2 d A) ≤ 48) ∧ ((fM_hoursOf2 d A) = ho (A 50) d (A 0 (fd 63)))) hA (qoks_c (show qok (rf _) from trivial) (qoks_c (show rng d from ⟨by (first | (clear hm hnf; omega) | omega), by (first | (clear hm hnf; omega) | omega)⟩) qoks_n)) ⟨d, rfl, ⟨p0, p1, p2, p3⟩, fun r9 g8 g9 x0 x1 => (by rw [← x1]; exact ⟨rfl, ⟨g8, g9⟩, x0⟩)⟩
  exact hk.2
def fM_canBeNext2_c11 (rec : Nat → List Int → qA → Int) (l1 l2 j : Int) (A : qA) : Int := qlet (A 0 (fd 63)) fun v12 => (if j < v12 then qlet (A 50 j) fun v16 => qlet (A 50 l2) fun v19 => qlet (v19 - 1) fun v22 => (if v16 = v22 then qlet (A 50 j) fun v27 => qlet (qm v16 6) fun v31 => (if v31 = 5 then qlet (j + 1) fun v35 => rec 11 [l1, l2, v35] A else qlet (sr l1 j) fun v37 => qlet (ia v37 1) fun v40 => (if v40 = 0 then 0 else qlet (j + 1) fun v44 => rec 11 [l1, l2, v44] A)) else qlet (j + 1) fun v25 => rec 11 [l1, l2, v25] A) else 1)
def fM_canBeNext2_L : Nat → Nat → List Int → qA → Int
  | 0 => fun _ _ B => 0
  | nF + 1 => fun k zs B => bif Nat.beq k 11 then (match zs with | [l1, l2, j] => fM_canBeNext2_c11 (fM_canBeNext2_L nF) l1 l2 j B | _ => 0) else 0
theorem fM_canBeNext2_L11 (nF : Nat) (l1 l2 j : Int) (B : qA) : fM_canBeNext2_L (nF + 1) 11 [l1, l2, j] B = fM_canBeNext2_c11 (fM_canBeNext2_L nF) l1 l2 j B := (congrFun (congrFun (congrFun (fM_canBeNext2_L.eq_2 nF) 11) [l1, l2, j]) B).trans (qL1 rfl rfl)
def fM_canBeNext2 (d q : Int) (A : qA) : Int := qlet (sr d q) fun v5 => qlet (ia v5 1) fun v8 => (if v8 = 1 then 0 else (fM_canBeNext2_L 100000) 11 [d, q, 0] A)
def sM_canBeNext2 : qS := fun as A K => ∃ d q : Int, as = [rf 0, ni d, ni q] ∧ (iva IM A ∧ ivf JM A ∧ 0 ≤ d ∧ d ≤ 255 ∧ 0 ≤ q ∧ q ≤ 7) ∧ (∀ r : Int, 0 ≤ r → r ≤ 1 → ((r = 1 ∧ CB A d q) ∨ (r = 0 ∧ ¬ CB A d q)) → (r = fM_canBeNext2 d q A) → K (some (ni r)) A)
theorem okM_canBeNext2 : okM LM 1 239 sM_canBeNext2 := by
  refine qmeth [] false [] 52 rfl trivial ?_
  rintro _ A K hA has ⟨d, q, rfl, ⟨i0, j0, p1, p2, p3, p4⟩, hK⟩
  have rg_d : rng d := has (ni d) (by simp)
  have rg_q : rng q := has (ni q) (by simp)
  have f0 := frm_0 [] [] A
  have hT : _ = fM_canBeNext2 d q A := (fM_canBeNext2.eq_1 d q A).symm
  refine ⟨Nat.le_of_ble_eq_true rfl, [(11, [(0, 2, 0), (1, 0, 0), (2, 0, 0), (3, 0, 0)], fun zs B nn => match zs with | [l1, l2, j] => A = B ∧ nn = (8 - j : Int).toNat ∧ (l1 = d) ∧ (l2 = q) ∧ (0 ≤ j) ∧ (j ≤ 8) ∧ (ia (sr d q) 1 ≠ 1) ∧ (∀ i, 0 ≤ i → i < j → ¬ (A 50 i = A 50 q - 1 ∧ A 50 i % 6 ≠ 5 ∧ ia (sr d i) 1 = 0)) ∧ (∃ nf : Nat, nn < nf ∧ fM_canBeNext2_L nf 11 [l1, l2, j] B = fM_canBeNext2 d q A) | _ => False)], ?_, ?_⟩
  · refine ⟨⟨rfl, ?_⟩, trivial⟩
    · refine fun l1 l2 j B mm hB hz hI => ?_
      obtain ⟨rfl, hm, c0, c1, c2, c3, c4, c5, ⟨nf, hnf, hT⟩⟩ := hI
      obtain ⟨hz_l1, hz_l2, hz_j, _⟩ := hz
      obtain ⟨ng, rfl⟩ : ∃ k, nf = k + 1 := ⟨nf - 1, by omega⟩
      replace hT := (fM_canBeNext2_c11.eq_1 (fM_canBeNext2_L ng) l1 l2 j A).symm.trans ((fM_canBeNext2_L11 ng l1 l2 j A).symm.trans hT)
      have hqq : A 50 l2 = A 50 q := by rw [show l2 = q by (first | (clear hm hnf; omega) | omega)]
      refine fun v12 gv12 e13 => ?_
      replace hT := qlc e13 hT
      have b14 := ivf_at j0 2 rfl
      refine And.intro (fun h15 => ?_) (fun h15 => ?_)
      · replace hT := (if_neg (Int.not_lt.mpr h15)).symm.trans hT
        exact And.intro (by (first | (clear hm hnf; omega) | omega)) (hK _ (by (first | (clear hm hnf; omega) | omega)) (by (first | (clear hm hnf; omega) | omega)) (Or.inl ⟨rfl, by assumption, fun i h0 h1 => c5 i h0 (by (first | (clear hm hnf; omega) | omega))⟩) hT)
      · replace hT := (if_pos h15).symm.trans hT
        refine And.intro (by (first | (clear hm hnf; omega) | omega)) (fun v16 gv16 e17 => ?_)
        replace hT := qlc e17 hT
        have b18 := iva_at i0 21 rfl (i := j) (by (first | (clear hm hnf; omega) | omega)) (by (first | (clear hm hnf; omega) | omega))
        refine And.intro (by (first | (clear hm hnf; omega) | omega)) (fun v19 gv19 e20 => ?_)
        replace hT := qlc e20 hT
        have b21 := iva_at i0 21 rfl (i := l2) (by (first | (clear hm hnf; omega) | omega)) (by (first | (clear hm hnf; omega) | omega))
        refine fun v22 e23 => ?_
        replace hT := qlc e23 hT
        refine And.intro (by (first | (clear hm hnf; omega) | omega)) (And.intro (fun h24 => ?_) (fun h24 => ?_))
        · replace hT := (if_neg h24).symm.trans hT
          refine fun v25 e26 => ?_
          replace hT := qlc e26 hT
          exact And.intro (by (first | (clear hm hnf; omega) | omega)) (Exists.intro (8 - v25 : Int).toNat (And.intro (by first | exact qtn hm (by (try clear hm hnf); omega) | omega) (And.intro rfl (And.intro rfl (And.intro (by (first | (clear hm hnf; omega) | omega)) (And.intro (by (first | (clear hm hnf; omega) | omega)) (And.intro (by (first | (clear hm hnf; omega) | omega)) (And.intro (by (first | (clear hm hnf; omega) | omega)) (And.intro (by (first | (clear hm hnf; omega) | omega)) (And.intro (by first | (intro i h0 h1; exfalso; omega) | (intro i h0 h1 hq; by_cases hi : i = j; (subst hi; omega); exact c5 i h0 (by (first | (clear hm hnf; omega) | omega)) hq)) (Exists.intro ng (And.intro (by first | exact qtm hm hnf (by (try clear hm hnf); omega) | omega) hT))))))))))))
        · replace hT := (if_pos h24).symm.trans hT
          refine And.intro (by (first | (clear hm hnf; omega) | omega)) (fun v27 gv27 e28 => ?_)
          replace hT := qlc e28 hT
          have b29 := iva_at i0 21 rfl (i := j) (by (first | (clear hm hnf; omega) | omega)) (by (first | (clear hm hnf; omega) | omega))
          have q30 : v16 = v27 := (e28.trans e17.symm).symm
          subst q30
          refine And.intro (by (first | (clear hm hnf; omega) | omega)) (fun v31 e32 => ?_)
          replace hT := qlc e32 hT
          have h33 := qm_nn (a := v16) (b := 6) (by (first | (clear hm hnf; omega) | omega))
          refine And.intro (fun h34 => ?_) (fun h34 => ?_)
          · replace hT := (if_pos h34).symm.trans hT
            refine fun v35 e36 => ?_
            replace hT := qlc e36 hT
            exact And.intro (by (first | (clear hm hnf; omega) | omega)) (Exists.intro (8 - v35 : Int).toNat (And.intro (by first | exact qtn hm (by (try clear hm hnf); omega) | omega) (And.intro rfl (And.intro rfl (And.intro (by (first | (clear hm hnf; omega) | omega)) (And.intro (by (first | (clear hm hnf; omega) | omega)) (And.intro (by (first | (clear hm hnf; omega) | omega)) (And.intro (by (first | (clear hm hnf; omega) | omega)) (And.intro (by (first | (clear hm hnf; omega) | omega)) (And.intro (by first | (intro i h0 h1; exfalso; omega) | (intro i h0 h1 hq; by_cases hi : i = j; (subst hi; omega); exact c5 i h0 (by (first | (clear hm hnf; omega) | omega)) hq)) (Exists.intro ng (And.intro (by first | exact qtm hm hnf (by (try clear hm hnf); omega) | omega) hT))))))))))))
          · replace hT := (if_neg h34).symm.trans hT
            refine fun v37 e38 => ?_
            replace hT := qlc e38 hT
            have h39 := sr_bd (a := l1) (b := j) (by (first | (clear hm hnf; omega) | omega)) (by (first | (clear hm hnf; omega) | omega))
            refine fun v40 e41 => ?_
            replace hT := qlc e41 hT
            have h42 := ia_bd (a := v37) (b := 1) (by (first | (clear hm hnf; omega) | omega)) (by (first | (clear hm hnf; omega) | omega))
            have hbj : ia (sr d j) 1 = v40 := by subst_vars; rfl
            refine And.intro (fun h43 => ?_) (fun h43 => ?_)
            · replace hT := (if_neg h43).symm.trans hT
              refine fun v44 e45 => ?_
              replace hT := qlc e45 hT
              exact And.intro (by (first | (clear hm hnf; omega) | omega)) (Exists.intro (8 - v44 : Int).toNat (And.intro (by first | exact qtn hm (by (try clear hm hnf); omega) | omega) (And.intro rfl (And.intro rfl (And.intro (by (first | (clear hm hnf; omega) | omega)) (And.intro (by (first | (clear hm hnf; omega) | omega)) (And.intro (by (first | (clear hm hnf; omega) | omega)) (And.intro (by (first | (clear hm hnf; omega) | omega)) (And.intro (by (first | (clear hm hnf; omega) | omega)) (And.intro (by first | (intro i h0 h1; exfalso; omega) | (intro i h0 h1 hq; by_cases hi : i = j; (subst hi; omega); exact c5 i h0 (by (first | (clear hm hnf; omega) | omega)) hq)) (Exists.intro ng (And.intro (by first | exact qtm hm hnf (by (try clear hm hnf); omega) | omega) hT))))))))))))
            · replace hT := (if_pos h43).symm.trans hT
              exact And.intro (by (first | (clear hm hnf; omega) | omega)) (hK _ (by (first | (clear hm hnf; omega) | omega)) (by (first | (clear hm hnf; omega) | omega)) (Or.inr ⟨rfl, fun h => h.2 j (by (first | (clear hm hnf; omega) | omega)) (by (first | (clear hm hnf; omega) | omega)) ⟨by (first | (clear hm hnf; omega) | omega), by (first | (clear hm hnf; omega) | omega), by (first | (clear hm hnf; omega) | omega)⟩⟩) hT)
  · refine fun v5 e6 => ?_
    replace hT := qlc e6 hT
    have h7 := sr_bd (a := d) (b := q) (by (first | (clear hm hnf; omega) | omega)) (by (first | (clear hm hnf; omega) | omega))
    refine fun v8 e9 => ?_
    replace hT := qlc e9 hT
    have h10 := ia_bd (a := v5) (b := 1) (by (first | (clear hm hnf; omega) | omega)) (by (first | (clear hm hnf; omega) | omega))
    have hbt : ia (sr d q) 1 = v8 := by subst_vars; rfl
    refine And.intro (fun h11 => ?_) (fun h11 => ?_)
    · replace hT := (if_neg h11).symm.trans hT
      exact Exists.intro (8 - 0 : Int).toNat (And.intro rfl (And.intro rfl (And.intro (by (first | (clear hm hnf; omega) | omega)) (And.intro (by (first | (clear hm hnf; omega) | omega)) (And.intro (by (first | (clear hm hnf; omega) | omega)) (And.intro (by (first | (clear hm hnf; omega) | omega)) (And.intro (by (first | (clear hm hnf; omega) | omega)) (And.intro (by first | (intro i h0 h1; exfalso; omega) | (intro i h0 h1 hq; by_cases hi : i = j; (subst hi; omega); exact hK i h0 (by (first | (clear hm hnf; omega) | omega)) hq)) (Exists.intro 100000 (And.intro (by (first | (clear hm hnf; omega) | omega)) hT))))))))))
    · replace hT := (if_pos h11).symm.trans hT
      exact And.intro (by (first | (clear hm hnf; omega) | omega)) (hK _ (by (first | (clear hm hnf; omega) | omega)) (by (first | (clear hm hnf; omega) | omega)) (Or.inr ⟨rfl, fun h => h.1 (by (first | (clear hm hnf; omega) | omega))⟩) hT)
theorem pM_canBeNext2 {d q : Int} {A : qA} (hA : qokA LM A) (p0 : iva IM A) (p1 : ivf JM A) (p2 : 0 ≤ d) (p3 : d ≤ 255) (p4 : 0 ≤ q) (p5 : q ≤ 7) : (0 ≤ (fM_canBeNext2 d q A) ∧ (fM_canBeNext2 d q A) ≤ 1) ∧ (((fM_canBeNext2 d q A) = 1 ∧ CB A d q) ∨ ((fM_canBeNext2 d q A) = 0 ∧ ¬ CB A d q)) := by
  obtain ⟨r, B, hB, _, hk⟩ := okM_ex okM_canBeNext2 (as := [rf 0, ni d, ni q]) (K := fun _ B => B = A ∧ (0 ≤ (fM_canBeNext2 d q A) ∧ (fM_canBeNext2 d q A) ≤ 1) ∧ (((fM_canBeNext2 d q A) = 1 ∧ CB A d q) ∨ ((fM_canBeNext2 d q A) = 0 ∧ ¬ CB A d q))) hA (qoks_c (show qok (rf _) from trivial) (qoks_c (show rng d from ⟨by (first | (clear hm hnf; omega) | omega), by (first | (clear hm hnf; omega) | omega)⟩) (qoks_c (show rng q from ⟨by (first | (clear hm hnf; omega) | omega), by (first | (clear hm hnf; omega) | omega)⟩) qoks_n))) ⟨d, q, rfl, ⟨p0, p1, p2, p3, p4, p5⟩, fun r9 g8 g9 x0 x1 => (by rw [← x1]; exact ⟨rfl, ⟨g8, g9⟩, x0⟩)⟩
  exact hk.2
def fM_costBy2 (d q : Int) (A : qA) : Int := qlet (fM_hoursOf2 d A) fun r8 => qlet (A 50 q) fun v13 => qlet (r8 + (1 + v13 % 6)) fun v16 => qlet (A 50 q) fun v18 => qlet (qd v13 6) fun v22 => qlet (A 21 v22) fun v25 => qlet (v16 * v25) fun v28 => qlet (sl 1 q) fun v31 => qlet (io d v31) fun v34 => qlet (A 63 v34) fun v37 => qlet (v28 + v37) fun v39 => v39
def sM_costBy2 : qS := fun as A K => ∃ d q : Int, as = [rf 0, ni d, ni q] ∧ (iva IM A ∧ ivf JM A ∧ 0 ≤ d ∧ d ≤ 255 ∧ 0 ≤ q ∧ q ≤ 7 ∧ (0 ≤ A 63 (io d (sl 1 q)) ∧ A 63 (io d (sl 1 q)) ≤ 2000000)) ∧ (∀ r : Int, 0 ≤ r → r ≤ 3000000 → (r = CO A d q) → (r ≤ 6000 + A 63 (io d (sl 1 q))) → (r = fM_costBy2 d q A) → K (some (ni r)) A)
theorem okM_costBy2 : okM LM 3 240 sM_costBy2 := by
  refine qmeth [] false [(238, sM_hoursOf2), (237, sM_takesOf2)] 35 rfl ⟨okM_hoursOf2.le (by decide), ⟨okM_takesOf2.le (by decide), trivial⟩⟩ ?_
  rintro _ A K hA has ⟨d, q, rfl, ⟨i0, j0, p1, p2, p3, p4, p5⟩, hK⟩
  have rg_d : rng d := has (ni d) (by simp)
  have rg_q : rng q := has (ni q) (by simp)
  have f0 := frm_0 [] [] A
  obtain ⟨v6, e7⟩ : ∃ v, v = A 63 (io d (sl 1 q)) := ⟨_, rfl⟩
  rw [← e7] at p5
  have hT : _ = fM_costBy2 d q A := (fM_costBy2.eq_1 d q A).symm
  refine ⟨Nat.le_of_ble_eq_true rfl, [], trivial, ?_⟩
  refine Exists.intro d (And.intro rfl (And.intro (And.intro i0 (And.intro j0 (And.intro (by (first | (clear hm hnf; omega) | omega)) (by (first | (clear hm hnf; omega) | omega))))) (fun r8 g11 g12 g9 g10 => ?_)))
  replace hT := qlc g10 hT
  clear g10
  refine And.intro (by (first | (clear hm hnf; omega) | omega)) (fun v13 gv13 e14 => ?_)
  replace hT := qlc e14 hT
  have b15 := iva_at i0 21 rfl (i := q) (by (first | (clear hm hnf; omega) | omega)) (by (first | (clear hm hnf; omega) | omega))
  refine Exists.intro v13 (And.intro rfl (And.intro (And.intro (by (first | (clear hm hnf; omega) | omega)) (by (first | (clear hm hnf; omega) | omega))) ?_))
  refine fun v16 e17 => ?_
  replace hT := qlc e17 hT
  refine And.intro (by (first | (clear hm hnf; omega) | omega)) (fun v18 gv18 e19 => ?_)
  replace hT := qlc e19 hT
  have b20 := iva_at i0 21 rfl (i := q) (by (first | (clear hm hnf; omega) | omega)) (by (first | (clear hm hnf; omega) | omega))
  have q21 : v13 = v18 := (e19.trans e14.symm).symm
  subst q21
  refine And.intro (by (first | (clear hm hnf; omega) | omega)) (fun v22 e23 => ?_)
  replace hT := qlc e23 hT
  have h24 := qd_nn (a := v13) (b := 6) (by (first | (clear hm hnf; omega) | omega))
  refine And.intro (by (first | (clear hm hnf; omega) | omega)) (fun v25 gv25 e26 => ?_)
  replace hT := qlc e26 hT
  have b27 := iva_at i0 9 rfl (i := v22) (by (first | (clear hm hnf; omega) | omega)) (by (first | (clear hm hnf; omega) | omega))
  refine fun v28 e29 => ?_
  replace hT := qlc e29 hT
  have h30 := mul_bd (a := v16) (b := v25) (p := 54) (q := 99) (by (first | (clear hm hnf; omega) | omega)) (by (first | (clear hm hnf; omega) | omega)) (by (first | (clear hm hnf; omega) | omega)) (by (first | (clear hm hnf; omega) | omega))
  rw [← e29] at h30
  refine fun v31 e32 => ?_
  replace hT := qlc e32 hT
  have h33 := sl_bd (b := q) 7 (by decide) (by (first | (clear hm hnf; omega) | omega)) (by (first | (clear hm hnf; omega) | omega))
  refine fun v34 e35 => ?_
  replace hT := qlc e35 hT
  have h36 := io_bd (a := d) (b := v31) 8 (by decide) (by (first | (clear hm hnf; omega) | omega)) (by (first | (clear hm hnf; omega) | omega)) (by (first | (clear hm hnf; omega) | omega)) (by (first | (clear hm hnf; omega) | omega))
  have hix : A 63 v34 = A 63 (io d (sl 1 q)) := by rw [show v34 = io d (sl 1 q) by (subst_vars; rfl)]
  refine And.intro (by (first | (clear hm hnf; omega) | omega)) (fun v37 gv37 e38 => ?_)
  replace hT := qlc e38 hT
  refine fun v39 e40 => ?_
  replace hT := qlc e40 hT
  replace hT : qHid _ := hT
  exact And.intro (by (first | (clear hm hnf; omega) | omega)) (hK _ (by (first | (clear hm hnf; omega) | omega)) (by (first | (clear hm hnf; omega) | omega)) (by first | omega | (clear hT; unfold CO; subst_vars; rfl)) (by first | omega | (clear hT; unfold CO; subst_vars; rfl)) hT)
theorem pM_costBy2 {d q : Int} {A : qA} (hA : qokA LM A) (p0 : iva IM A) (p1 : ivf JM A) (p2 : 0 ≤ d) (p3 : d ≤ 255) (p4 : 0 ≤ q) (p5 : q ≤ 7) (p6 : (0 ≤ A 63 (io d (sl 1 q)) ∧ A 63 (io d (sl 1 q)) ≤ 2000000)) : (0 ≤ (fM_costBy2 d q A) ∧ (fM_costBy2 d q A) ≤ 3000000) ∧ ((fM_costBy2 d q A) = CO A d q) ∧ ((fM_costBy2 d q A) ≤ 6000 + A 63 (io d (sl 1 q))) := by
  obtain ⟨r, B, hB, _, hk⟩ := okM_ex okM_costBy2 (as := [rf 0, ni d, ni q]) (K := fun _ B => B = A ∧ (0 ≤ (fM_costBy2 d q A) ∧ (fM_costBy2 d q A) ≤ 3000000) ∧ ((fM_costBy2 d q A) = CO A d q) ∧ ((fM_costBy2 d q A) ≤ 6000 + A 63 (io d (sl 1 q)))) hA (qoks_c (show qok (rf _) from trivial) (qoks_c (show rng d from ⟨by (first | (clear hm hnf; omega) | omega), by (first | (clear hm hnf; omega) | omega)⟩) (qoks_c (show rng q from ⟨by (first | (clear hm hnf; omega) | omega), by (first | (clear hm hnf; omega) | omega)⟩) qoks_n))) ⟨d, q, rfl, ⟨p0, p1, p2, p3, p4, p5, p6⟩, fun r9 g8 g9 x0 x1 x2 => (by rw [← x2]; exact ⟨rfl, ⟨g8, g9⟩, x0, x1⟩)⟩
  exact hk.2
def fM_mended_c17 (rec : Nat → List Int → qA → Int × qA) (l3 q : Int) (B : qA) : Int × qA := qlet (B 0 (fd 63)) fun v23 => (if q < v23 then qlet (B 50 q) fun v36 => qlet (B 1 v36) fun v39 => (if v39 = 0 then qlet (q + 1) fun v43 => rec 17 [l3, v43] B else ((-3), B)) else qlet (B 0 (fd 63)) fun v27 => qlet (sl 1 v23) fun v31 => qlet (v31 - 1) fun v34 => rec 42 [l3, v34, v34] B)
def fM_mended_c42 (rec : Nat → List Int → qA → Int × qA) (l3 t d : Int) (B : qA) : Int × qA := (if d < 0 then (if l3 = (-1) then qlet (B 63 0) fun v47 => (v47, B) else rec 94 [l3, 0, 0] B) else (if d = t then qlet (qu B 63 d 0) fun A57 => rec 56 [l3, t, d, 0] A57 else qlet (qu B 63 d (qn 1000000000)) fun A51 => rec 56 [l3, t, d, 0] A51))
def fM_mended_c94 (rec : Nat → List Int → qA → Int × qA) (l3 d p : Int) (B : qA) : Int × qA := (if l3 < p then ((-1), B) else rec 99 [l3, d, p, 0] B)
def fM_mended_c56 (rec : Nat → List Int → qA → Int × qA) (l3 t d q : Int) (B : qA) : Int × qA := qlet (B 0 (fd 63)) fun v64 => (if q < v64 then qlet (fM_canBeNext2 d q B) fun r70 => (if r70 = 0 then qlet (q + 1) fun v76 => rec 56 [l3, t, d, v76] B else qlet (B 63 d) fun v78 => qlet (fM_costBy2 d q B) fun r82 => qlet (fM_less v78 r82 B) fun r88 => qlet (qu B 63 d r88) fun A92 => qlet (q + 1) fun v98 => rec 56 [l3, t, d, v98] A92) else qlet (d + (-1)) fun v68 => rec 42 [l3, t, v68] B)
def fM_mended_c99 (rec : Nat → List Int → qA → Int × qA) (l3 d p q : Int) (B : qA) : Int × qA := qlet (fM_canBeNext2 d q B) fun r100 => (if r100 = 0 then qlet (q + 1) fun v106 => rec 99 [l3, d, p, v106] B else qlet (fM_costBy2 d q B) fun r110 => qlet (B 63 d) fun v116 => (if r110 = v116 then (if p = l3 then qlet (B 50 q) fun v128 => (v128, B) else qlet (sl 1 q) fun v120 => qlet (io d v120) fun v123 => qlet (p + 1) fun v126 => rec 94 [l3, v123, v126] B) else qlet (q + 1) fun v131 => rec 99 [l3, d, p, v131] B))
def fM_mended_L : Nat → Nat → List Int → qA → Int × qA
  | 0 => fun _ _ B => (0, B)
  | nF + 1 => fun k zs B => bif Nat.beq k 17 then (match zs with | [l3, q] => fM_mended_c17 (fM_mended_L nF) l3 q B | _ => (0, B)) else bif Nat.beq k 42 then (match zs with | [l3, t, d] => fM_mended_c42 (fM_mended_L nF) l3 t d B | _ => (0, B)) else bif Nat.beq k 94 then (match zs with | [l3, d, p] => fM_mended_c94 (fM_mended_L nF) l3 d p B | _ => (0, B)) else bif Nat.beq k 56 then (match zs with | [l3, t, d, q] => fM_mended_c56 (fM_mended_L nF) l3 t d q B | _ => (0, B)) else bif Nat.beq k 99 then (match zs with | [l3, d, p, q] => fM_mended_c99 (fM_mended_L nF) l3 d p q B | _ => (0, B)) else (0, B)
theorem fM_mended_L17 (nF : Nat) (l3 q : Int) (B : qA) : fM_mended_L (nF + 1) 17 [l3, q] B = fM_mended_c17 (fM_mended_L nF) l3 q B := (congrFun (congrFun (congrFun (fM_mended_L.eq_2 nF) 17) [l3, q]) B).trans (qL1 rfl rfl)
theorem fM_mended_L42 (nF : Nat) (l3 t d : Int) (B : qA) : fM_mended_L (nF + 1) 42 [l3, t, d] B = fM_mended_c42 (fM_mended_L nF) l3 t d B := (congrFun (congrFun (congrFun (fM_mended_L.eq_2 nF) 42) [l3, t, d]) B).trans (qL0 rfl (qL1 rfl rfl))
theorem fM_mended_L94 (nF : Nat) (l3 d p : Int) (B : qA) : fM_mended_L (nF + 1) 94 [l3, d, p] B = fM_mended_c94 (fM_mended_L nF) l3 d p B := (congrFun (congrFun (congrFun (fM_mended_L.eq_2 nF) 94) [l3, d, p]) B).trans (qL0 rfl (qL0 rfl (qL1 rfl rfl)))
theorem fM_mended_L56 (nF : Nat) (l3 t d q : Int) (B : qA) : fM_mended_L (nF + 1) 56 [l3, t, d, q] B = fM_mended_c56 (fM_mended_L nF) l3 t d q B := (congrFun (congrFun (congrFun (fM_mended_L.eq_2 nF) 56) [l3, t, d, q]) B).trans (qL0 rfl (qL0 rfl (qL0 rfl (qL1 rfl rfl))))
theorem fM_mended_L99 (nF : Nat) (l3 d p q : Int) (B : qA) : fM_mended_L (nF + 1) 99 [l3, d, p, q] B = fM_mended_c99 (fM_mended_L nF) l3 d p q B := (congrFun (congrFun (congrFun (fM_mended_L.eq_2 nF) 99) [l3, d, p, q]) B).trans (qL0 rfl (qL0 rfl (qL0 rfl (qL0 rfl (qL1 rfl rfl)))))
def fM_mended (x h : Int) (A : qA) : Int × qA := qlp (fM_lays2 x 8 A) fun r5 A1 => (if r5 = 0 then ((-3), A1) else qlet (A1 0 (fd 63)) fun v15 => qlet (v15 - 1) fun v18 => (if (-1) ≤ h ∧ h ≤ v18 then (fM_mended_L 100000000) 17 [h, 0] A1 else ((-3), A1)))
def sM_mended : qS := fun as A K => ∃ x h : Int, as = [rf 0, nl x, ni h] ∧ (iva IM A ∧ ivf JM A) ∧ (∀ A' : qA, iva IM A' → ivf JM A' → frm [50, 63] [(0, 63)] A A' → ∀ r : Int, rng r → (r = (fM_mended x h A).1) → (A' = (fM_mended x h A).2) → K (some (ni r)) A')
theorem okM_mended : okM LM 4 241 sM_mended := by
  refine qmeth [] false [(217, sM_lays2), (145, sM_in), (239, sM_canBeNext2), (240, sM_costBy2), (146, sM_less)] 142 rfl ⟨okM_lays2.le (by decide), ⟨okM_in.le (by decide), ⟨okM_canBeNext2.le (by decide), ⟨okM_costBy2.le (by decide), ⟨okM_less.le (by decide), trivial⟩⟩⟩⟩⟩ ?_
  rintro _ A K hA has ⟨x, h, rfl, ⟨i0, j0⟩, hK⟩
  have rg_x : rngL x := has (nl x) (by simp)
  have rg_h : rng h := has (ni h) (by simp)
  have f0 := frm_0 [50, 63] [(0, 63)] A
  have hb_0_63 := ivf_at j0 2 rfl
  have hT : _ = fM_mended x h A := (fM_mended.eq_1 x h A).symm
  refine ⟨Nat.le_of_ble_eq_true rfl, [(17, [(0, 2, 0), (3, 0, 0), (4, 0, 0)], fun zs B nn => match zs with | [l3, q] => iva IM B ∧ ivf JM B ∧ frm [50, 63] [(0, 63)] A B ∧ nn = (90000000 - q : Int).toNat ∧ (l3 = h) ∧ (0 ≤ q) ∧ (q ≤ 8) ∧ (IX B 48) ∧ ((-1) ≤ h) ∧ (h < B 0 (fd 63)) ∧ (∃ nf : Nat, nn < nf ∧ fM_mended_L nf 17 [l3, q] B = fM_mended x h A) | _ => False), (42, [(0, 2, 0), (3, 0, 0), (4, 0, 0), (5, 0, 0)], fun zs B nn => match zs with | [l3, t, d] => iva IM B ∧ ivf JM B ∧ frm [50, 63] [(0, 63)] A B ∧ nn = ((d + 1) * 100 + 50000 + 50 : Int).toNat ∧ (l3 = h) ∧ (0 ≤ t) ∧ (t ≤ 255) ∧ (AL B t) ∧ (IX B 48) ∧ ((-1) ≤ h) ∧ (h < B 0 (fd 63)) ∧ ((-1) ≤ d) ∧ (d ≤ t) ∧ (GDs B t (d + 1)) ∧ (∃ nf : Nat, nn < nf ∧ fM_mended_L nf 42 [l3, t, d] B = fM_mended x h A) | _ => False), (94, [(0, 2, 0), (3, 0, 0), (5, 0, 0), (6, 0, 0)], fun zs B nn => match zs with | [l3, d, p] => iva IM B ∧ ivf JM B ∧ frm [50, 63] [(0, 63)] A B ∧ nn = ((10 - p) * 100 : Int).toNat ∧ (l3 = h) ∧ (0 ≤ d) ∧ (d ≤ 255) ∧ (d < sl 1 (B 0 (fd 63))) ∧ (0 ≤ p) ∧ (bc d 8 = p) ∧ ((-1) ≤ h) ∧ (h < B 0 (fd 63)) ∧ (GDs B (sl 1 (B 0 (fd 63)) - 1) 0) ∧ (p ≤ 9) ∧ (∃ nf : Nat, nn < nf ∧ fM_mended_L nf 94 [l3, d, p] B = fM_mended x h A) | _ => False), (56, [(0, 2, 0), (3, 0, 0), (4, 0, 0), (5, 0, 0), (6, 0, 0)], fun zs B nn => match zs with | [l3, t, d, q] => iva IM B ∧ ivf JM B ∧ frm [50, 63] [(0, 63)] A B ∧ nn = ((d + 1) * 100 + 50000 + 40 - q : Int).toNat ∧ (l3 = h) ∧ (0 ≤ t) ∧ (t ≤ 255) ∧ (AL B t) ∧ (IX B 48) ∧ ((-1) ≤ h) ∧ (h < B 0 (fd 63)) ∧ (0 ≤ d) ∧ (d ≤ t) ∧ (0 ≤ q) ∧ (q ≤ B 0 (fd 63)) ∧ (GDs B t (d + 1)) ∧ (IN B t d q) ∧ (∃ nf : Nat, nn < nf ∧ fM_mended_L nf 56 [l3, t, d, q] B = fM_mended x h A) | _ => False), (99, [(0, 2, 0), (3, 0, 0), (5, 0, 0), (6, 0, 0), (7, 0, 0)], fun zs B nn => match zs with | [l3, d, p, q] => iva IM B ∧ ivf JM B ∧ frm [50, 63] [(0, 63)] A B ∧ nn = ((10 - p) * 100 - 1 - q : Int).toNat ∧ (l3 = h) ∧ (0 ≤ d) ∧ (d ≤ 255) ∧ (d < sl 1 (B 0 (fd 63))) ∧ (0 ≤ p) ∧ (bc d 8 = p) ∧ ((-1) ≤ h) ∧ (h < B 0 (fd 63)) ∧ (GDs B (sl 1 (B 0 (fd 63)) - 1) 0) ∧ (p ≤ h) ∧ (0 ≤ q) ∧ (q ≤ 7) ∧ (EX B d q) ∧ (∃ nf : Nat, nn < nf ∧ fM_mended_L nf 99 [l3, d, p, q] B = fM_mended x h A) | _ => False)], ?_, ?_⟩
  · refine ⟨⟨rfl, ?_⟩, ⟨rfl, ?_⟩, ⟨rfl, ?_⟩, ⟨rfl, ?_⟩, ⟨rfl, ?_⟩, trivial⟩
    · refine fun l3 q B mm hB hz hI => ?_
      obtain ⟨i1, j1, f1, hm, c0, c1, c2, c3, c4, c5, ⟨nf, hnf, hT⟩⟩ := hI
      obtain ⟨hz_l3, hz_q, _⟩ := hz
      obtain ⟨ng, rfl⟩ : ∃ k, nf = k + 1 := ⟨nf - 1, by omega⟩
      replace hT := (fM_mended_c17.eq_1 (fM_mended_L ng) l3 q B).symm.trans ((fM_mended_L17 ng l3 q B).symm.trans hT)
      have hc_0_63 := ivf_at j1 2 rfl
      refine fun v23 gv23 e24 => ?_
      replace hT := qlc e24 hT
      have b25 := ivf_at j1 2 rfl
      refine And.intro (fun h26 => ?_) (fun h26 => ?_)
      · replace hT := (if_neg (Int.not_lt.mpr h26)).symm.trans hT
        refine fun v27 gv27 e28 => ?_
        replace hT := qlc e28 hT
        have b29 := ivf_at j1 2 rfl
        have q30 : v23 = v27 := (e28.trans e24.symm).symm
        subst q30
        obtain ⟨n9, hn9⟩ : ∃ n, n = v23 := ⟨_, rfl⟩
        have hn8 : n9 = B 0 (fd 63) := by (first | (clear hm hnf; omega) | omega)
        refine fun v31 e32 => ?_
        replace hT := qlc e32 hT
        have h33 := sl_bd (b := v23) 8 (by decide) (by (first | (clear hm hnf; omega) | omega)) (by (first | (clear hm hnf; omega) | omega))
        have hs8 : v31 = sl 1 n9 := by rw [hn9]; assumption
        refine fun v34 e35 => ?_
        replace hT := qlc e35 hT
        have hk4 := k4 (n := n9) (v := v34) (by (first | (clear hm hnf; omega) | omega)) (by (first | (clear hm hnf; omega) | omega)) (by (first | (clear hm hnf; omega) | omega))
        have hal : AL B v34 := by unfold AL; rw [← hn8]; omega
        exact And.intro (by (first | (clear hm hnf; omega) | omega)) (And.intro (by (first | (clear hm hnf; omega) | omega)) (Exists.intro ((v34 + 1) * 100 + 50000 + 50 : Int).toNat (And.intro (by first | exact qtn hm (by (try clear hm hnf); omega) | omega) (And.intro i1 (And.intro j1 (And.intro f1 (And.intro rfl (And.intro (by (first | (clear hm hnf; omega) | omega)) (And.intro (by (first | (clear hm hnf; omega) | omega)) (And.intro (by (first | (clear hm hnf; omega) | omega)) (And.intro (by first | assumption | exact AL_k (by assumption : AL B t) (by (first | (clear hm hnf; omega) | omega))) (And.intro (by first | assumption | exact IX_k (by assumption : IX B 48) rfl (by (first | (clear hm hnf; omega) | omega)) (by (first | (clear hm hnf; omega) | omega))) (And.intro (by (first | (clear hm hnf; omega) | omega)) (And.intro (by (first | (clear hm hnf; omega) | omega)) (And.intro (by (first | (clear hm hnf; omega) | omega)) (And.intro (by (first | (clear hm hnf; omega) | omega)) (And.intro (by first | exact GDs_0 (by (first | (clear hm hnf; omega) | omega)) | exact GDs_n (by assumption : GDs B t (d + 1)) rfl (by (first | (clear hm hnf; omega) | omega)) (by assumption : IN B t d q) (by (first | (clear hm hnf; omega) | omega)) (by (first | (clear hm hnf; omega) | omega)) (by assumption : IX B 48) (by assumption : AL B t) (by (first | (clear hm hnf; omega) | omega)) (by (first | (clear hm hnf; omega) | omega)) (by (first | (clear hm hnf; omega) | omega))) (Exists.intro ng (And.intro (by first | exact qtm hm hnf (by (try clear hm hnf); omega) | omega) hT)))))))))))))))))))
      · replace hT := (if_pos h26).symm.trans hT
        refine And.intro (by (first | (clear hm hnf; omega) | omega)) (fun v36 gv36 e37 => ?_)
        replace hT := qlc e37 hT
        have b38 := iva_at i1 21 rfl (i := q) (by (first | (clear hm hnf; omega) | omega)) (by (first | (clear hm hnf; omega) | omega))
        refine And.intro (by (first | (clear hm hnf; omega) | omega)) (fun v39 gv39 e40 => ?_)
        replace hT := qlc e40 hT
        have b41 := iva_at i1 0 rfl (i := v36) (by (first | (clear hm hnf; omega) | omega)) (by (first | (clear hm hnf; omega) | omega))
        refine And.intro (fun h42 => ?_) (fun h42 => ?_)
        · replace hT := (if_pos h42).symm.trans hT
          refine fun v43 e44 => ?_
          replace hT := qlc e44 hT
          exact And.intro (by (first | (clear hm hnf; omega) | omega)) (Exists.intro (90000000 - v43 : Int).toNat (And.intro (by first | exact qtn hm (by (try clear hm hnf); omega) | omega) (And.intro i1 (And.intro j1 (And.intro f1 (And.intro rfl (And.intro (by (first | (clear hm hnf; omega) | omega)) (And.intro (by (first | (clear hm hnf; omega) | omega)) (And.intro (by (first | (clear hm hnf; omega) | omega)) (And.intro (by first | assumption | exact Or.resolve_left hE (by (first | (clear hm hnf; omega) | omega))) (And.intro (by (first | (clear hm hnf; omega) | omega)) (And.intro (by (first | (clear hm hnf; omega) | omega)) (Exists.intro ng (And.intro (by first | exact qtm hm hnf (by (try clear hm hnf); omega) | omega) hT))))))))))))))
        · replace hT := (if_neg h42).symm.trans hT
          exact hK _ i1 j1 f1 _ (by first | assumption | exact ⟨by (first | (clear hm hnf; omega) | omega), by (first | (clear hm hnf; omega) | omega)⟩ | exact wI_rng _ | exact i_rng _ | (subst_vars; exact i_rng _) | exact (hA _ _).2 rfl) (congrArg Prod.fst hT) (congrArg Prod.snd hT)
    · refine fun l3 t d B mm hB hz hI => ?_
      obtain ⟨i1, j1, f1, hm, c0, c1, c2, c3, c4, c5, c6, c7, c8, c9, ⟨nf, hnf, hT⟩⟩ := hI
      obtain ⟨hz_l3, hz_t, hz_d, _⟩ := hz
      obtain ⟨ng, rfl⟩ : ∃ k, nf = k + 1 := ⟨nf - 1, by omega⟩
      replace hT := (fM_mended_c42.eq_1 (fM_mended_L ng) l3 t d B).symm.trans ((fM_mended_L42 ng l3 t d B).symm.trans hT)
      have hc_0_63 := ivf_at j1 2 rfl
      refine And.intro (fun h45 => ?_) (fun h45 => ?_)
      · replace hT := (if_pos h45).symm.trans hT
        refine And.intro (fun h46 => ?_) (fun h46 => ?_)
        · replace hT := (if_neg h46).symm.trans hT
          have hsl := sl_bd (b := B 0 (fd 63)) 8 (by decide) (by (first | (clear hm hnf; omega) | omega)) (by (first | (clear hm hnf; omega) | omega))
          have hgl : GDs B (sl 1 (B 0 (fd 63)) - 1) 0 := GDs_e (by assumption : GDs B t (d + 1)) (by assumption : AL B t) (by (first | (clear hm hnf; omega) | omega))
          have hb0 := bc00
          exact Exists.intro ((10 - 0) * 100 : Int).toNat (And.intro (by first | exact qtn hm (by (try clear hm hnf); omega) | omega) (And.intro i1 (And.intro j1 (And.intro f1 (And.intro rfl (And.intro (by (first | (clear hm hnf; omega) | omega)) (And.intro (by (first | (clear hm hnf; omega) | omega)) (And.intro (by (first | (clear hm hnf; omega) | omega)) (And.intro (by (first | (clear hm hnf; omega) | omega)) (And.intro (by (first | (clear hm hnf; omega) | omega)) (And.intro (by (first | (clear hm hnf; omega) | omega)) (And.intro (by (first | (clear hm hnf; omega) | omega)) (And.intro (by (first | (clear hm hnf; omega) | omega)) (And.intro (by assumption) (And.intro (by (first | (clear hm hnf; omega) | omega)) (Exists.intro ng (And.intro (by first | exact qtm hm hnf (by (try clear hm hnf); omega) | omega) hT)))))))))))))))))
        · replace hT := (if_pos h46).symm.trans hT
          refine And.intro (by (first | (clear hm hnf; omega) | omega)) (fun v47 gv47 e48 => ?_)
          replace hT := qlc e48 hT
          exact hK _ i1 j1 f1 _ (by first | assumption | exact ⟨by (first | (clear hm hnf; omega) | omega), by (first | (clear hm hnf; omega) | omega)⟩ | exact wI_rng _ | exact i_rng _ | (subst_vars; exact i_rng _) | exact (hA _ _).2 rfl) (congrArg Prod.fst hT) (congrArg Prod.snd hT)
      · replace hT := (if_neg (Int.not_lt.mpr h45)).symm.trans hT
        refine And.intro (fun h49 => ?_) (fun h49 => ?_)
        · replace hT := (if_neg h49).symm.trans hT
          have k50 : qn 1000000000 = 1000000000 := by decide
          refine And.intro (by (first | (clear hm hnf; omega) | omega)) (fun A51 e52 => ?_)
          replace hT := qlc e52 hT
          have i53 := iva_st i1 e52 trivial
          have j54 := ivf_sa j1 e52 rfl
          have f55 := frm_s f1 e52 rfl
          have t56 : A51 0 (fd 63) = B 0 (fd 63) := (congrFun (st_a e52 rfl) _)
          exact Exists.intro ((d + 1) * 100 + 50000 + 40 - 0 : Int).toNat (And.intro (by first | exact qtn hm (by (try clear hm hnf); omega) | omega) (And.intro i53 (And.intro j54 (And.intro f55 (And.intro rfl (And.intro (by (first | (clear hm hnf; omega) | omega)) (And.intro (by (first | (clear hm hnf; omega) | omega)) (And.intro (by (first | (clear hm hnf; omega) | omega)) (And.intro (by first | assumption | exact AL_k (by assumption : AL B t) (by (first | (clear hm hnf; omega) | omega))) (And.intro (by first | assumption | exact IX_k (by assumption : IX B 48) (st_a e52 rfl) (by (first | (clear hm hnf; omega) | omega)) (by (first | (clear hm hnf; omega) | omega))) (And.intro (by (first | (clear hm hnf; omega) | omega)) (And.intro (by (first | (clear hm hnf; omega) | omega)) (And.intro (by (first | (clear hm hnf; omega) | omega)) (And.intro (by (first | (clear hm hnf; omega) | omega)) (And.intro (by (first | (clear hm hnf; omega) | omega)) (And.intro (by (first | (clear hm hnf; omega) | omega)) (And.intro (by first | assumption | exact GDs_u (by assumption : GDs B t (d + 1)) (st_u e52) (by (first | (clear hm hnf; omega) | omega)) rfl (by (first | (clear hm hnf; omega) | omega)) (by (first | (clear hm hnf; omega) | omega)) (by (first | (clear hm hnf; omega) | omega)) (st_a e52 rfl) (st_a e52 rfl) (by (first | (clear hm hnf; omega) | omega))) (And.intro (by first | exact IN_n (by assumption : IN B t d q) (by rcases hE with ⟨z, _⟩ | ⟨_, z⟩; exfalso; omega; exact z) (by (first | (clear hm hnf; omega) | omega)) | exact IN_s (by assumption : IN B t d q) (st_u e52) (by (first | (clear hm hnf; omega) | omega)) (by (first | (clear hm hnf; omega) | omega)) hcb (by (first | (clear hm hnf; omega) | omega)) (by (first | (clear hm hnf; omega) | omega)) (by (first | (clear hm hnf; omega) | omega)) (by (first | (clear hm hnf; omega) | omega)) (by (first | (clear hm hnf; omega) | omega)) (by (first | (clear hm hnf; omega) | omega)) (by (first | (clear hm hnf; omega) | omega)) (by (first | (clear hm hnf; omega) | omega)) (st_a e52 rfl) (st_a e52 rfl) (by (first | (clear hm hnf; omega) | omega)) (by (first | (clear hm hnf; omega) | omega)) | exact IN_0 (st_u e52) (by (first | (clear hm hnf; omega) | omega)) (by (first | (clear hm hnf; omega) | omega)) (by (first | (clear hm hnf; omega) | omega))) (Exists.intro ng (And.intro (by first | exact qtm hm hnf (by (try clear hm hnf); omega) | omega) hT))))))))))))))))))))
        · replace hT := (if_pos h49).symm.trans hT
          refine And.intro (by (first | (clear hm hnf; omega) | omega)) (fun A57 e58 => ?_)
          replace hT := qlc e58 hT
          have i59 := iva_st i1 e58 trivial
          have j60 := ivf_sa j1 e58 rfl
          have f61 := frm_s f1 e58 rfl
          have t62 : A57 0 (fd 63) = B 0 (fd 63) := (congrFun (st_a e58 rfl) _)
          exact Exists.intro ((d + 1) * 100 + 50000 + 40 - 0 : Int).toNat (And.intro (by first | exact qtn hm (by (try clear hm hnf); omega) | omega) (And.intro i59 (And.intro j60 (And.intro f61 (And.intro rfl (And.intro (by (first | (clear hm hnf; omega) | omega)) (And.intro (by (first | (clear hm hnf; omega) | omega)) (And.intro (by (first | (clear hm hnf; omega) | omega)) (And.intro (by first | assumption | exact AL_k (by assumption : AL B t) (by (first | (clear hm hnf; omega) | omega))) (And.intro (by first | assumption | exact IX_k (by assumption : IX B 48) (st_a e58 rfl) (by (first | (clear hm hnf; omega) | omega)) (by (first | (clear hm hnf; omega) | omega))) (And.intro (by (first | (clear hm hnf; omega) | omega)) (And.intro (by (first | (clear hm hnf; omega) | omega)) (And.intro (by (first | (clear hm hnf; omega) | omega)) (And.intro (by (first | (clear hm hnf; omega) | omega)) (And.intro (by (first | (clear hm hnf; omega) | omega)) (And.intro (by (first | (clear hm hnf; omega) | omega)) (And.intro (by first | assumption | exact GDs_u (by assumption : GDs B t (d + 1)) (st_u e58) (by (first | (clear hm hnf; omega) | omega)) rfl (by (first | (clear hm hnf; omega) | omega)) (by (first | (clear hm hnf; omega) | omega)) (by (first | (clear hm hnf; omega) | omega)) (st_a e58 rfl) (st_a e58 rfl) (by (first | (clear hm hnf; omega) | omega))) (And.intro (by first | exact IN_n (by assumption : IN B t d q) (by rcases hE with ⟨z, _⟩ | ⟨_, z⟩; exfalso; omega; exact z) (by (first | (clear hm hnf; omega) | omega)) | exact IN_s (by assumption : IN B t d q) (st_u e58) (by (first | (clear hm hnf; omega) | omega)) (by (first | (clear hm hnf; omega) | omega)) hcb (by (first | (clear hm hnf; omega) | omega)) (by (first | (clear hm hnf; omega) | omega)) (by (first | (clear hm hnf; omega) | omega)) (by (first | (clear hm hnf; omega) | omega)) (by (first | (clear hm hnf; omega) | omega)) (by (first | (clear hm hnf; omega) | omega)) (by (first | (clear hm hnf; omega) | omega)) (by (first | (clear hm hnf; omega) | omega)) (st_a e58 rfl) (st_a e58 rfl) (by (first | (clear hm hnf; omega) | omega)) (by (first | (clear hm hnf; omega) | omega)) | exact IN_0 (st_u e58) (by (first | (clear hm hnf; omega) | omega)) (by (first | (clear hm hnf; omega) | omega)) (by (first | (clear hm hnf; omega) | omega))) (Exists.intro ng (And.intro (by first | exact qtm hm hnf (by (try clear hm hnf); omega) | omega) hT))))))))))))))))))))
    · refine fun l3 d p B mm hB hz hI => ?_
      obtain ⟨i1, j1, f1, hm, c0, c1, c2, c3, c4, c5, c6, c7, c8, c9, ⟨nf, hnf, hT⟩⟩ := hI
      obtain ⟨hz_l3, hz_d, hz_p, _⟩ := hz
      obtain ⟨ng, rfl⟩ : ∃ k, nf = k + 1 := ⟨nf - 1, by omega⟩
      replace hT := (fM_mended_c94.eq_1 (fM_mended_L ng) l3 d p B).symm.trans ((fM_mended_L94 ng l3 d p B).symm.trans hT)
      have hc_0_63 := ivf_at j1 2 rfl
      refine And.intro (fun h63 => ?_) (fun h63 => ?_)
      · replace hT := (if_pos h63).symm.trans hT
        exact hK _ i1 j1 f1 _ (by first | assumption | exact ⟨by (first | (clear hm hnf; omega) | omega), by (first | (clear hm hnf; omega) | omega)⟩ | exact wI_rng _ | exact i_rng _ | (subst_vars; exact i_rng _) | exact (hA _ _).2 rfl) (congrArg Prod.fst hT) (congrArg Prod.snd hT)
      · replace hT := (if_neg (Int.not_lt.mpr h63)).symm.trans hT
        have hk4 := k4 (n := B 0 (fd 63)) (v := sl 1 (B 0 (fd 63)) - 1) (by (first | (clear hm hnf; omega) | omega)) (by (first | (clear hm hnf; omega) | omega)) rfl
        have hne : d ≠ sl 1 (B 0 (fd 63)) - 1 := fun z => by rw [← z] at hk4; omega
        exact Exists.intro ((10 - p) * 100 - 1 - 0 : Int).toNat (And.intro (by first | exact qtn hm (by (try clear hm hnf); omega) | omega) (And.intro i1 (And.intro j1 (And.intro f1 (And.intro rfl (And.intro (by (first | (clear hm hnf; omega) | omega)) (And.intro (by (first | (clear hm hnf; omega) | omega)) (And.intro (by (first | (clear hm hnf; omega) | omega)) (And.intro (by (first | (clear hm hnf; omega) | omega)) (And.intro (by (first | (clear hm hnf; omega) | omega)) (And.intro (by (first | (clear hm hnf; omega) | omega)) (And.intro (by (first | (clear hm hnf; omega) | omega)) (And.intro (by (first | (clear hm hnf; omega) | omega)) (And.intro (by assumption) (And.intro (by (first | (clear hm hnf; omega) | omega)) (And.intro (by (first | (clear hm hnf; omega) | omega)) (And.intro (by first | omega | (have q9 := EX_b (EX_1 (by assumption : EX B d q) (by rcases hE with ⟨z, _⟩ | ⟨_, z⟩; exfalso; omega; exact z) rfl); omega) | (have q9 := EX_b (EX_2 (by assumption : EX B d q) (by (first | (clear hm hnf; omega) | omega)) rfl); omega)) (And.intro (by first | exact EX_0 (by assumption : GDs B (sl 1 (B 0 (fd 63)) - 1) 0) (by (first | (clear hm hnf; omega) | omega)) (by (first | (clear hm hnf; omega) | omega)) rfl | exact EX_1 (by assumption : EX B d q) (by rcases hE with ⟨z, _⟩ | ⟨_, z⟩; exfalso; omega; exact z) (by (first | (clear hm hnf; omega) | omega)) | exact EX_2 (by assumption : EX B d q) (by (first | (clear hm hnf; omega) | omega)) (by (first | (clear hm hnf; omega) | omega))) (Exists.intro ng (And.intro (by first | exact qtm hm hnf (by (try clear hm hnf); omega) | omega) hT))))))))))))))))))))
    · refine fun l3 t d q B mm hB hz hI => ?_
      obtain ⟨i1, j1, f1, hm, c0, c1, c2, c3, c4, c5, c6, c7, c8, c9, c10, c11, c12, ⟨nf, hnf, hT⟩⟩ := hI
      obtain ⟨hz_l3, hz_t, hz_d, hz_q, _⟩ := hz
      obtain ⟨ng, rfl⟩ : ∃ k, nf = k + 1 := ⟨nf - 1, by omega⟩
      replace hT := (fM_mended_c56.eq_1 (fM_mended_L ng) l3 t d q B).symm.trans ((fM_mended_L56 ng l3 t d q B).symm.trans hT)
      have hc_0_63 := ivf_at j1 2 rfl
      refine fun v64 gv64 e65 => ?_
      replace hT := qlc e65 hT
      have b66 := ivf_at j1 2 rfl
      refine And.intro (fun h67 => ?_) (fun h67 => ?_)
      · replace hT := (if_neg (Int.not_lt.mpr h67)).symm.trans hT
        refine fun v68 e69 => ?_
        replace hT := qlc e69 hT
        exact And.intro (by (first | (clear hm hnf; omega) | omega)) (Exists.intro ((v68 + 1) * 100 + 50000 + 50 : Int).toNat (And.intro (by first | exact qtn hm (by (try clear hm hnf); omega) | omega) (And.intro i1 (And.intro j1 (And.intro f1 (And.intro rfl (And.intro (by (first | (clear hm hnf; omega) | omega)) (And.intro (by (first | (clear hm hnf; omega) | omega)) (And.intro (by (first | (clear hm hnf; omega) | omega)) (And.intro (by first | assumption | exact AL_k (by assumption : AL B t) (by (first | (clear hm hnf; omega) | omega))) (And.intro (by first | assumption | exact IX_k (by assumption : IX B 48) rfl (by (first | (clear hm hnf; omega) | omega)) (by (first | (clear hm hnf; omega) | omega))) (And.intro (by (first | (clear hm hnf; omega) | omega)) (And.intro (by (first | (clear hm hnf; omega) | omega)) (And.intro (by (first | (clear hm hnf; omega) | omega)) (And.intro (by (first | (clear hm hnf; omega) | omega)) (And.intro (by first | exact GDs_0 (by (first | (clear hm hnf; omega) | omega)) | exact GDs_n (by assumption : GDs B t (d + 1)) rfl (by (first | (clear hm hnf; omega) | omega)) (by assumption : IN B t d q) (by (first | (clear hm hnf; omega) | omega)) (by (first | (clear hm hnf; omega) | omega)) (by assumption : IX B 48) (by assumption : AL B t) (by (first | (clear hm hnf; omega) | omega)) (by (first | (clear hm hnf; omega) | omega)) (by (first | (clear hm hnf; omega) | omega))) (Exists.intro ng (And.intro (by first | exact qtm hm hnf (by (try clear hm hnf); omega) | omega) hT))))))))))))))))))
      · replace hT := (if_pos h67).symm.trans hT
        refine Exists.intro d (Exists.intro q (And.intro rfl (And.intro (And.intro i1 (And.intro j1 (And.intro (by (first | (clear hm hnf; omega) | omega)) (And.intro (by (first | (clear hm hnf; omega) | omega)) (And.intro (by (first | (clear hm hnf; omega) | omega)) (by (first | (clear hm hnf; omega) | omega))))))) (fun r70 g73 g74 g71 g72 => ?_))))
        replace hT := qlc g72 hT
        clear g72
        refine And.intro (fun h75 => ?_) (fun h75 => ?_)
        · replace hT := (if_pos h75).symm.trans hT
          refine fun v76 e77 => ?_
          replace hT := qlc e77 hT
          exact And.intro (by (first | (clear hm hnf; omega) | omega)) (Exists.intro ((d + 1) * 100 + 50000 + 40 - v76 : Int).toNat (And.intro (by first | exact qtn hm (by (try clear hm hnf); omega) | omega) (And.intro i1 (And.intro j1 (And.intro f1 (And.intro rfl (And.intro (by (first | (clear hm hnf; omega) | omega)) (And.intro (by (first | (clear hm hnf; omega) | omega)) (And.intro (by (first | (clear hm hnf; omega) | omega)) (And.intro (by first | assumption | exact AL_k (by assumption : AL B t) (by (first | (clear hm hnf; omega) | omega))) (And.intro (by first | assumption | exact IX_k (by assumption : IX B 48) rfl (by (first | (clear hm hnf; omega) | omega)) (by (first | (clear hm hnf; omega) | omega))) (And.intro (by (first | (clear hm hnf; omega) | omega)) (And.intro (by (first | (clear hm hnf; omega) | omega)) (And.intro (by (first | (clear hm hnf; omega) | omega)) (And.intro (by (first | (clear hm hnf; omega) | omega)) (And.intro (by (first | (clear hm hnf; omega) | omega)) (And.intro (by (first | (clear hm hnf; omega) | omega)) (And.intro (by first | assumption | exact GDs_u (by assumption : GDs B t (d + 1)) rfl (by (first | (clear hm hnf; omega) | omega)) rfl (by (first | (clear hm hnf; omega) | omega)) (by (first | (clear hm hnf; omega) | omega)) (by (first | (clear hm hnf; omega) | omega)) rfl rfl (by (first | (clear hm hnf; omega) | omega))) (And.intro (by first | exact IN_n (by assumption : IN B t d q) (by rcases g71 with ⟨z, _⟩ | ⟨_, z⟩; exfalso; omega; exact z) (by (first | (clear hm hnf; omega) | omega)) | exact IN_s (by assumption : IN B t d q) rfl (by (first | (clear hm hnf; omega) | omega)) (by (first | (clear hm hnf; omega) | omega)) hcb (by (first | (clear hm hnf; omega) | omega)) (by (first | (clear hm hnf; omega) | omega)) (by (first | (clear hm hnf; omega) | omega)) (by (first | (clear hm hnf; omega) | omega)) (by (first | (clear hm hnf; omega) | omega)) (by (first | (clear hm hnf; omega) | omega)) (by (first | (clear hm hnf; omega) | omega)) (by (first | (clear hm hnf; omega) | omega)) rfl rfl (by (first | (clear hm hnf; omega) | omega)) (by (first | (clear hm hnf; omega) | omega)) | exact IN_0 rfl (by (first | (clear hm hnf; omega) | omega)) (by (first | (clear hm hnf; omega) | omega)) (by (first | (clear hm hnf; omega) | omega))) (Exists.intro ng (And.intro (by first | exact qtm hm hnf (by (try clear hm hnf); omega) | omega) hT)))))))))))))))))))))
        · replace hT := (if_neg h75).symm.trans hT
          have hcb : CB B d q := by rcases g71 with ⟨_, z⟩ | ⟨z, _⟩; exact z; exfalso; omega
          have hio := CB_io hcb (by assumption : AL B t) (by (first | (clear hm hnf; omega) | omega)) (by (first | (clear hm hnf; omega) | omega)) (by (first | (clear hm hnf; omega) | omega)) (by (first | (clear hm hnf; omega) | omega)) (by (first | (clear hm hnf; omega) | omega)) (by (first | (clear hm hnf; omega) | omega))
          have hgd := ((by assumption : GDs B t (d + 1)) (io d (sl 1 q)) (by (first | (clear hm hnf; omega) | omega)) (by (first | (clear hm hnf; omega) | omega))).1
          refine And.intro (by (first | (clear hm hnf; omega) | omega)) (fun v78 gv78 e79 => ?_)
          replace hT := qlc e79 hT
          obtain ⟨v80, e81⟩ : ∃ v, v = B 63 (io d (sl 1 q)) := ⟨_, rfl⟩
          refine Exists.intro d (Exists.intro q (And.intro rfl (And.intro (And.intro i1 (And.intro j1 (And.intro (by (first | (clear hm hnf; omega) | omega)) (And.intro (by (first | (clear hm hnf; omega) | omega)) (And.intro (by (first | (clear hm hnf; omega) | omega)) (And.intro (by (first | (clear hm hnf; omega) | omega)) (by rw [← e81]; omega))))))) (fun r82 g86 g87 g83 g84 g85 => ?_))))
          replace hT := qlc g85 hT
          clear g85
          refine Exists.intro v78 (Exists.intro r82 (And.intro rfl (fun r88 g91 g89 g90 => ?_)))
          replace hT := qlc g90 hT
          clear g90
          refine And.intro (by (first | (clear hm hnf; omega) | omega)) (fun A92 e93 => ?_)
          replace hT := qlc e93 hT
          have i94 := iva_st i1 e93 trivial
          have j95 := ivf_sa j1 e93 rfl
          have f96 := frm_s f1 e93 rfl
          have t97 : A92 0 (fd 63) = B 0 (fd 63) := (congrFun (st_a e93 rfl) _)
          refine fun v98 e99 => ?_
          replace hT := qlc e99 hT
          exact And.intro (by (first | (clear hm hnf; omega) | omega)) (Exists.intro ((d + 1) * 100 + 50000 + 40 - v98 : Int).toNat (And.intro (by first | exact qtn hm (by (try clear hm hnf); omega) | omega) (And.intro i94 (And.intro j95 (And.intro f96 (And.intro rfl (And.intro (by (first | (clear hm hnf; omega) | omega)) (And.intro (by (first | (clear hm hnf; omega) | omega)) (And.intro (by (first | (clear hm hnf; omega) | omega)) (And.intro (by first | assumption | exact AL_k (by assumption : AL B t) (by (first | (clear hm hnf; omega) | omega))) (And.intro (by first | assumption | exact IX_k (by assumption : IX B 48) (st_a e93 rfl) (by (first | (clear hm hnf; omega) | omega)) (by (first | (clear hm hnf; omega) | omega))) (And.intro (by (first | (clear hm hnf; omega) | omega)) (And.intro (by (first | (clear hm hnf; omega) | omega)) (And.intro (by (first | (clear hm hnf; omega) | omega)) (And.intro (by (first | (clear hm hnf; omega) | omega)) (And.intro (by (first | (clear hm hnf; omega) | omega)) (And.intro (by (first | (clear hm hnf; omega) | omega)) (And.intro (by first | assumption | exact GDs_u (by assumption : GDs B t (d + 1)) (st_u e93) (by (first | (clear hm hnf; omega) | omega)) rfl (by (first | (clear hm hnf; omega) | omega)) (by (first | (clear hm hnf; omega) | omega)) (by (first | (clear hm hnf; omega) | omega)) (st_a e93 rfl) (st_a e93 rfl) (by (first | (clear hm hnf; omega) | omega))) (And.intro (by first | exact IN_n (by assumption : IN B t d q) (by rcases g71 with ⟨z, _⟩ | ⟨_, z⟩; exfalso; omega; exact z) (by (first | (clear hm hnf; omega) | omega)) | exact IN_s (by assumption : IN B t d q) (st_u e93) (by (first | (clear hm hnf; omega) | omega)) (by (first | (clear hm hnf; omega) | omega)) hcb (by (first | (clear hm hnf; omega) | omega)) (by (first | (clear hm hnf; omega) | omega)) (by (first | (clear hm hnf; omega) | omega)) (by (first | (clear hm hnf; omega) | omega)) (by (first | (clear hm hnf; omega) | omega)) (by (first | (clear hm hnf; omega) | omega)) (by (first | (clear hm hnf; omega) | omega)) (by (first | (clear hm hnf; omega) | omega)) (st_a e93 rfl) (st_a e93 rfl) (by (first | (clear hm hnf; omega) | omega)) (by (first | (clear hm hnf; omega) | omega)) | exact IN_0 (st_u e93) (by (first | (clear hm hnf; omega) | omega)) (by (first | (clear hm hnf; omega) | omega)) (by (first | (clear hm hnf; omega) | omega))) (Exists.intro ng (And.intro (by first | exact qtm hm hnf (by (try clear hm hnf); omega) | omega) hT)))))))))))))))))))))
    · refine fun l3 d p q B mm hB hz hI => ?_
      obtain ⟨i1, j1, f1, hm, c0, c1, c2, c3, c4, c5, c6, c7, c8, c9, c10, c11, c12, ⟨nf, hnf, hT⟩⟩ := hI
      obtain ⟨hz_l3, hz_d, hz_p, hz_q, _⟩ := hz
      obtain ⟨ng, rfl⟩ : ∃ k, nf = k + 1 := ⟨nf - 1, by omega⟩
      replace hT := (fM_mended_c99.eq_1 (fM_mended_L ng) l3 d p q B).symm.trans ((fM_mended_L99 ng l3 d p q B).symm.trans hT)
      have hc_0_63 := ivf_at j1 2 rfl
      refine Exists.intro d (Exists.intro q (And.intro rfl (And.intro (And.intro i1 (And.intro j1 (And.intro (by (first | (clear hm hnf; omega) | omega)) (And.intro (by (first | (clear hm hnf; omega) | omega)) (And.intro (by (first | (clear hm hnf; omega) | omega)) (by (first | (clear hm hnf; omega) | omega))))))) (fun r100 g103 g104 g101 g102 => ?_))))
      replace hT := qlc g102 hT
      clear g102
      refine And.intro (fun h105 => ?_) (fun h105 => ?_)
      · replace hT := (if_pos h105).symm.trans hT
        refine fun v106 e107 => ?_
        replace hT := qlc e107 hT
        exact And.intro (by (first | (clear hm hnf; omega) | omega)) (Exists.intro ((10 - p) * 100 - 1 - v106 : Int).toNat (And.intro (by first | exact qtn hm (by (try clear hm hnf); omega) | omega) (And.intro i1 (And.intro j1 (And.intro f1 (And.intro rfl (And.intro (by (first | (clear hm hnf; omega) | omega)) (And.intro (by (first | (clear hm hnf; omega) | omega)) (And.intro (by (first | (clear hm hnf; omega) | omega)) (And.intro (by (first | (clear hm hnf; omega) | omega)) (And.intro (by (first | (clear hm hnf; omega) | omega)) (And.intro (by (first | (clear hm hnf; omega) | omega)) (And.intro (by (first | (clear hm hnf; omega) | omega)) (And.intro (by (first | (clear hm hnf; omega) | omega)) (And.intro (by assumption) (And.intro (by (first | (clear hm hnf; omega) | omega)) (And.intro (by (first | (clear hm hnf; omega) | omega)) (And.intro (by first | omega | (have q9 := EX_b (EX_1 (by assumption : EX B d q) (by rcases g101 with ⟨z, _⟩ | ⟨_, z⟩; exfalso; omega; exact z) rfl); omega) | (have q9 := EX_b (EX_2 (by assumption : EX B d q) (by (first | (clear hm hnf; omega) | omega)) rfl); omega)) (And.intro (by first | exact EX_0 (by assumption : GDs B (sl 1 (B 0 (fd 63)) - 1) 0) (by (first | (clear hm hnf; omega) | omega)) (by (first | (clear hm hnf; omega) | omega)) rfl | exact EX_1 (by assumption : EX B d q) (by rcases g101 with ⟨z, _⟩ | ⟨_, z⟩; exfalso; omega; exact z) (by (first | (clear hm hnf; omega) | omega)) | exact EX_2 (by assumption : EX B d q) (by (first | (clear hm hnf; omega) | omega)) (by (first | (clear hm hnf; omega) | omega))) (Exists.intro ng (And.intro (by first | exact qtm hm hnf (by (try clear hm hnf); omega) | omega) hT)))))))))))))))))))))
      · replace hT := (if_neg h105).symm.trans hT
        have hsl := sl_bd (b := B 0 (fd 63)) 8 (by decide) (by (first | (clear hm hnf; omega) | omega)) (by (first | (clear hm hnf; omega) | omega))
        have hcb : CB B d q := by rcases g101 with ⟨_, z⟩ | ⟨z, _⟩; exact z; exfalso; omega
        have hqn := EX_b (by assumption : EX B d q)
        have hio := CB_io hcb (AL_0 B) (by (first | (clear hm hnf; omega) | omega)) (by (first | (clear hm hnf; omega) | omega)) (by (first | (clear hm hnf; omega) | omega)) (by (first | (clear hm hnf; omega) | omega)) (by (first | (clear hm hnf; omega) | omega)) (by (first | (clear hm hnf; omega) | omega))
        have hgd := ((by assumption : GDs B (sl 1 (B 0 (fd 63)) - 1) 0) (io d (sl 1 q)) (by (first | (clear hm hnf; omega) | omega)) (by (first | (clear hm hnf; omega) | omega))).1
        obtain ⟨v108, e109⟩ : ∃ v, v = B 63 (io d (sl 1 q)) := ⟨_, rfl⟩
        refine Exists.intro d (Exists.intro q (And.intro rfl (And.intro (And.intro i1 (And.intro j1 (And.intro (by (first | (clear hm hnf; omega) | omega)) (And.intro (by (first | (clear hm hnf; omega) | omega)) (And.intro (by (first | (clear hm hnf; omega) | omega)) (And.intro (by (first | (clear hm hnf; omega) | omega)) (by rw [← e109]; omega))))))) (fun r110 g114 g115 g111 g112 g113 => ?_))))
        replace hT := qlc g113 hT
        clear g113
        refine And.intro (by (first | (clear hm hnf; omega) | omega)) (fun v116 gv116 e117 => ?_)
        replace hT := qlc e117 hT
        refine And.intro (fun h118 => ?_) (fun h118 => ?_)
        · replace hT := (if_pos h118).symm.trans hT
          refine And.intro (fun h119 => ?_) (fun h119 => ?_)
          · replace hT := (if_neg h119).symm.trans hT
            refine fun v120 e121 => ?_
            replace hT := qlc e121 hT
            have h122 := sl_bd (b := q) 7 (by decide) (by (first | (clear hm hnf; omega) | omega)) (by (first | (clear hm hnf; omega) | omega))
            refine fun v123 e124 => ?_
            replace hT := qlc e124 hT
            have h125 := io_bd (a := d) (b := v120) 8 (by decide) (by (first | (clear hm hnf; omega) | omega)) (by (first | (clear hm hnf; omega) | omega)) (by (first | (clear hm hnf; omega) | omega)) (by (first | (clear hm hnf; omega) | omega))
            have hi9 : v123 = io d (sl 1 q) := by subst_vars; rfl
            rw [← hi9] at hio
            refine fun v126 e127 => ?_
            replace hT := qlc e127 hT
            exact And.intro (by (first | (clear hm hnf; omega) | omega)) (Exists.intro ((10 - v126) * 100 : Int).toNat (And.intro (by first | exact qtn hm (by (try clear hm hnf); omega) | omega) (And.intro i1 (And.intro j1 (And.intro f1 (And.intro rfl (And.intro (by (first | (clear hm hnf; omega) | omega)) (And.intro (by (first | (clear hm hnf; omega) | omega)) (And.intro (by (first | (clear hm hnf; omega) | omega)) (And.intro (by (first | (clear hm hnf; omega) | omega)) (And.intro (by (first | (clear hm hnf; omega) | omega)) (And.intro (by (first | (clear hm hnf; omega) | omega)) (And.intro (by (first | (clear hm hnf; omega) | omega)) (And.intro (by (first | (clear hm hnf; omega) | omega)) (And.intro (by assumption) (And.intro (by (first | (clear hm hnf; omega) | omega)) (Exists.intro ng (And.intro (by first | exact qtm hm hnf (by (try clear hm hnf); omega) | omega) hT))))))))))))))))))
          · replace hT := (if_pos h119).symm.trans hT
            refine And.intro (by (first | (clear hm hnf; omega) | omega)) (fun v128 gv128 e129 => ?_)
            replace hT := qlc e129 hT
            have b130 := iva_at i1 21 rfl (i := q) (by (first | (clear hm hnf; omega) | omega)) (by (first | (clear hm hnf; omega) | omega))
            exact hK _ i1 j1 f1 _ (by first | assumption | exact ⟨by (first | (clear hm hnf; omega) | omega), by (first | (clear hm hnf; omega) | omega)⟩ | exact wI_rng _ | exact i_rng _ | (subst_vars; exact i_rng _) | exact (hA _ _).2 rfl) (congrArg Prod.fst hT) (congrArg Prod.snd hT)
        · replace hT := (if_neg h118).symm.trans hT
          refine fun v131 e132 => ?_
          replace hT := qlc e132 hT
          exact And.intro (by (first | (clear hm hnf; omega) | omega)) (Exists.intro ((10 - p) * 100 - 1 - v131 : Int).toNat (And.intro (by first | exact qtn hm (by (try clear hm hnf); omega) | omega) (And.intro i1 (And.intro j1 (And.intro f1 (And.intro rfl (And.intro (by (first | (clear hm hnf; omega) | omega)) (And.intro (by (first | (clear hm hnf; omega) | omega)) (And.intro (by (first | (clear hm hnf; omega) | omega)) (And.intro (by (first | (clear hm hnf; omega) | omega)) (And.intro (by (first | (clear hm hnf; omega) | omega)) (And.intro (by (first | (clear hm hnf; omega) | omega)) (And.intro (by (first | (clear hm hnf; omega) | omega)) (And.intro (by (first | (clear hm hnf; omega) | omega)) (And.intro (by assumption) (And.intro (by (first | (clear hm hnf; omega) | omega)) (And.intro (by (first | (clear hm hnf; omega) | omega)) (And.intro (by first | omega | (have q9 := EX_b (EX_1 (by assumption : EX B d q) (by rcases g101 with ⟨z, _⟩ | ⟨_, z⟩; exfalso; omega; exact z) rfl); omega) | (have q9 := EX_b (EX_2 (by assumption : EX B d q) (by (first | (clear hm hnf; omega) | omega)) rfl); omega)) (And.intro (by first | exact EX_0 (by assumption : GDs B (sl 1 (B 0 (fd 63)) - 1) 0) (by (first | (clear hm hnf; omega) | omega)) (by (first | (clear hm hnf; omega) | omega)) rfl | exact EX_1 (by assumption : EX B d q) (by rcases g101 with ⟨z, _⟩ | ⟨_, z⟩; exfalso; omega; exact z) (by (first | (clear hm hnf; omega) | omega)) | exact EX_2 (by assumption : EX B d q) (by (first | (clear hm hnf; omega) | omega)) (by (first | (clear hm hnf; omega) | omega))) (Exists.intro ng (And.intro (by first | exact qtm hm hnf (by (try clear hm hnf); omega) | omega) hT)))))))))))))))))))))
  · refine Exists.intro x (Exists.intro 8 (And.intro rfl (And.intro (And.intro i0 (And.intro j0 (And.intro (by (first | (clear hm hnf; omega) | omega)) (by (first | (clear hm hnf; omega) | omega))))) (fun A1 i2 j3 f4 r5 g10 g11 g6 g7 g8 g9 => ?_))))
    replace hT := qlpc g8 g9 hT
    clear g8 g9
    have f12 := frm_c f0 f4 rfl
    have t13 := ivf_at j3 2 rfl
    refine And.intro (fun h14 => ?_) (fun h14 => ?_)
    · replace hT := (if_pos h14).symm.trans hT
      exact hK _ i2 j3 f12 _ (by first | assumption | exact ⟨by (first | (clear hm hnf; omega) | omega), by (first | (clear hm hnf; omega) | omega)⟩ | exact wI_rng _ | exact i_rng _ | (subst_vars; exact i_rng _) | exact (hA _ _).2 rfl) (congrArg Prod.fst hT) (congrArg Prod.snd hT)
    · replace hT := (if_neg h14).symm.trans hT
      refine fun v15 gv15 e16 => ?_
      replace hT := qlc e16 hT
      have b17 := ivf_at j3 2 rfl
      refine fun v18 e19 => ?_
      replace hT := qlc e19 hT
      refine And.intro (by (first | (clear hm hnf; omega) | omega)) (Exists.intro h (Exists.intro (-1) (Exists.intro v18 (And.intro rfl (And.intro (fun h20 => ?_) (fun h20 => ?_))))))
      · replace hT := (if_pos h20).symm.trans hT
        refine And.intro (fun h21 => ?_) (fun h21 => by exfalso; omega)
        exact Exists.intro (90000000 - 0 : Int).toNat (And.intro i2 (And.intro j3 (And.intro f12 (And.intro rfl (And.intro (by (first | (clear hm hnf; omega) | omega)) (And.intro (by (first | (clear hm hnf; omega) | omega)) (And.intro (by (first | (clear hm hnf; omega) | omega)) (And.intro (by first | assumption | exact Or.resolve_left g7 (by (first | (clear hm hnf; omega) | omega))) (And.intro (by (first | (clear hm hnf; omega) | omega)) (And.intro (by (first | (clear hm hnf; omega) | omega)) (Exists.intro 100000000 (And.intro (by (first | (clear hm hnf; omega) | omega)) hT))))))))))))
      · replace hT := (if_neg h20).symm.trans hT
        refine And.intro (fun h22 => by exfalso; omega) (fun h22 => ?_)
        exact hK _ i2 j3 f12 _ (by first | assumption | exact ⟨by (first | (clear hm hnf; omega) | omega), by (first | (clear hm hnf; omega) | omega)⟩ | exact wI_rng _ | exact i_rng _ | (subst_vars; exact i_rng _) | exact (hA _ _).2 rfl) (congrArg Prod.fst hT) (congrArg Prod.snd hT)
theorem pM_mended {x h : Int} {A : qA} (hA : qokA LM A) (rg_x : rngL x) (rg_h : rng h) (p0 : iva IM A) (p1 : ivf JM A) : qokA LM (fM_mended x h A).2 ∧ iva IM (fM_mended x h A).2 ∧ ivf JM (fM_mended x h A).2 ∧ frm [50, 63] [(0, 63)] A (fM_mended x h A).2 ∧ rng (fM_mended x h A).1 := by
  obtain ⟨r, B, hB, _, hk⟩ := okM_ex okM_mended (as := [rf 0, nl x, ni h]) (K := fun _ B => B = (fM_mended x h A).2 ∧ iva IM (fM_mended x h A).2 ∧ ivf JM (fM_mended x h A).2 ∧ frm [50, 63] [(0, 63)] A (fM_mended x h A).2 ∧ rng (fM_mended x h A).1) hA (qoks_c (show qok (rf _) from trivial) (qoks_c (rg_x) (qoks_c (rg_h) qoks_n))) ⟨x, h, rfl, ⟨p0, p1⟩, fun A9 i9 j9 f9 r9 g9 x0 x1 => (by rw [← x1]; (try rw [← x0]); exact ⟨rfl, i9, j9, f9, g9⟩)⟩
  exact ⟨hk.1 ▸ hB, hk.2⟩
