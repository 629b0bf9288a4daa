/-! eight numbers together -/
def s8 (c : Int → Int) : Int := c 0 + c 1 + c 2 + c 3 + c 4 + c 5 + c 6 + c 7
def N8 (c : Int → Int) : Prop := ∀ i, 0 ≤ i → i < 8 → 0 ≤ c i
theorem e8 {j : Int} (h0 : 0 ≤ j) (h1 : j < 8) : j = 0 ∨ j = 1 ∨ j = 2 ∨ j = 3 ∨ j = 4 ∨ j = 5 ∨ j = 6 ∨ j = 7 := by omega
theorem N8_p {c : Int → Int} (h : N8 c) : 0 ≤ c 0 ∧ 0 ≤ c 1 ∧ 0 ≤ c 2 ∧ 0 ≤ c 3 ∧ 0 ≤ c 4 ∧ 0 ≤ c 5 ∧ 0 ≤ c 6 ∧ 0 ≤ c 7 :=
  ⟨h 0 (by decide) (by decide), h 1 (by decide) (by decide), h 2 (by decide) (by decide), h 3 (by decide) (by decide), h 4 (by decide) (by decide), h 5 (by decide) (by decide), h 6 (by decide) (by decide), h 7 (by decide) (by decide)⟩
theorem s8_nn {c : Int → Int} (h : N8 c) : 0 ≤ s8 c := by
  have := N8_p h
  unfold s8
  omega
theorem s8_le {c : Int → Int} {j : Int} (h : N8 c) (h0 : 0 ≤ j) (h1 : j < 8) : 0 ≤ c j ∧ c j ≤ s8 c := by
  have := N8_p h
  unfold s8
  rcases e8 h0 h1 with rfl | rfl | rfl | rfl | rfl | rfl | rfl | rfl <;> omega
theorem s8_u {c c' : Int → Int} {j v : Int} (h : c' = (fun i : Int => if i = j then v else c i)) (h0 : 0 ≤ j) (h1 : j < 8) : s8 c' = s8 c + v - c j := by
  unfold s8
  have hn : ∀ i, i ≠ j → c' i = c i := fun i hi => up_n h hi
  have he := up_e h
  rcases e8 h0 h1 with rfl | rfl | rfl | rfl | rfl | rfl | rfl | rfl
  · rw [he, hn 1 (by decide), hn 2 (by decide), hn 3 (by decide), hn 4 (by decide), hn 5 (by decide), hn 6 (by decide), hn 7 (by decide)]; omega
  · rw [he, hn 0 (by decide), hn 2 (by decide), hn 3 (by decide), hn 4 (by decide), hn 5 (by decide), hn 6 (by decide), hn 7 (by decide)]; omega
  · rw [he, hn 1 (by decide), hn 0 (by decide), hn 3 (by decide), hn 4 (by decide), hn 5 (by decide), hn 6 (by decide), hn 7 (by decide)]; omega
  · rw [he, hn 1 (by decide), hn 2 (by decide), hn 0 (by decide), hn 4 (by decide), hn 5 (by decide), hn 6 (by decide), hn 7 (by decide)]; omega
  · rw [he, hn 1 (by decide), hn 2 (by decide), hn 3 (by decide), hn 0 (by decide), hn 5 (by decide), hn 6 (by decide), hn 7 (by decide)]; omega
  · rw [he, hn 1 (by decide), hn 2 (by decide), hn 3 (by decide), hn 4 (by decide), hn 0 (by decide), hn 6 (by decide), hn 7 (by decide)]; omega
  · rw [he, hn 1 (by decide), hn 2 (by decide), hn 3 (by decide), hn 4 (by decide), hn 5 (by decide), hn 0 (by decide), hn 7 (by decide)]; omega
  · rw [he, hn 1 (by decide), hn 2 (by decide), hn 3 (by decide), hn 4 (by decide), hn 5 (by decide), hn 6 (by decide), hn 0 (by decide)]; omega
theorem N8_u {c c' : Int → Int} {j v : Int} (h : c' = (fun i : Int => if i = j then v else c i)) (hv : 0 ≤ v) (hc : N8 c) : N8 c' := by
  intro i h0 h1
  by_cases hi : i = j
  · rw [hi, up_e h]; exact hv
  · rw [up_n h hi]; exact hc i h0 h1
/-- the first ones together -/
def pN (c : Int → Int) : Nat → Int
  | 0 => 0
  | n + 1 => pN c n + c n
def p8 (c : Int → Int) (k : Int) : Int := pN c k.toNat
theorem p8_0 (c : Int → Int) : p8 c 0 = 0 := rfl
theorem p8_s {c : Int → Int} {k : Int} (h : 0 ≤ k) : p8 c (k + 1) = p8 c k + c k := by
  obtain ⟨n, rfl⟩ := Int.eq_ofNat_of_zero_le h
  have e : ((n : Int) + 1).toNat = n + 1 := by omega
  have e2 : ((n : Nat) : Int).toNat = n := by omega
  unfold p8
  rw [e, e2]
  rfl
theorem p8_8 (c : Int → Int) : p8 c 8 = s8 c := by
  show (0 + c (0 : Nat) + c (1 : Nat) + c (2 : Nat) + c (3 : Nat) + c (4 : Nat) + c (5 : Nat) + c (6 : Nat) + c (7 : Nat)) = s8 c
  unfold s8
  have z : (0 : Int) + c ((0 : Nat) : Int) = c 0 := by rw [Int.zero_add]; rfl
  rw [z]
  rfl
theorem s8_c {c d : Int → Int} (h : ∀ i, 0 ≤ i → i < 8 → c i = d i) : s8 c = s8 d := by
  unfold s8
  rw [h 0 (by decide) (by decide), h 1 (by decide) (by decide), h 2 (by decide) (by decide), h 3 (by decide) (by decide), h 4 (by decide) (by decide), h 5 (by decide) (by decide), h 6 (by decide) (by decide), h 7 (by decide) (by decide)]
theorem jadd_id {x y : Int} (h : rngL (x + y)) : jadd x y = x + y := iL_to h
theorem jmul3 {y : Int} (h : rngL (3 * y)) : jmul (qnL 3) y = 3 * y := by
  rw [show qnL 3 = 3 by decide]
  exact iL_to h
/-- how many birds there are, with and without -/
def LQ (A : qA) (m : Int) : Prop := N8 (A 54) ∧ N8 (A 55) ∧ s8 (A 54) + s8 (A 55) ≤ m
theorem LQ_k {A A' : qA} {m m' : Int} (h : LQ A m) (h54 : A' 54 = A 54) (h55 : A' 55 = A 55) (hm : m ≤ m') : LQ A' m' := by
  unfold LQ at h ⊢
  rw [h54, h55]
  exact ⟨h.1, h.2.1, by omega⟩
theorem LQ_b {A : qA} {m j : Int} (h : LQ A m) (h0 : 0 ≤ j) (h1 : j < 8) : 0 ≤ A 54 j ∧ 0 ≤ A 55 j ∧ A 54 j + A 55 j ≤ m := by
  have h2 := s8_le h.1 h0 h1
  have h3 := s8_le h.2.1 h0 h1
  have h4 := h.2.2
  exact ⟨h2.1, h3.1, by omega⟩
theorem LQ_t {A A' : qA} {m j v w : Int} (h : LQ A m) (h0 : 0 ≤ j) (h1 : j < 8) (h54 : A' 54 = (fun i : Int => if i = j then w else A 54 i)) (h55 : A' 55 = (fun i : Int => if i = j then v else A 55 i)) (hv : v = A 55 j + A 54 j) (hw : w = 0) : LQ A' m := by
  have h2 := LQ_b h h0 h1
  have e1 := s8_u h54 h0 h1
  have e2 := s8_u h55 h0 h1
  have h4 := h.2.2
  exact ⟨N8_u h54 (by omega) h.1, N8_u h55 (by omega) h.2.1, by omega⟩
theorem LQ_o {A A' : qA} {m j w r : Int} (h : LQ A m) (h0 : 0 ≤ j) (h1 : j < 8) (h54 : A' 54 = A 54) (h55 : A' 55 = (fun i : Int => if i = j then w else A 55 i)) (hw : w = 0) (hr : r = A 55 j) : LQ A' (m - r) := by
  have h2 := LQ_b h h0 h1
  have e2 := s8_u h55 h0 h1
  have h4 := h.2.2
  refine ⟨by rw [h54]; exact h.1, N8_u h55 (by omega) h.2.1, by rw [h54]; omega⟩
/-- in flight -/
def LF (A B : qA) (x k : Int) : Prop := N8 (B 56) ∧ N8 (B 57) ∧ s8 (B 56) + s8 (B 57) = 3 * (p8 (A 54) x + p8 (A 55) x) + k
theorem LF_1 {A B B' : qA} {x k j v w k' : Int} (h : LF A B x k) (h0 : 0 ≤ j) (h1 : j < 8) (h56 : B' 56 = (fun i : Int => if i = j then v else B 56 i)) (h57 : B' 57 = (fun i : Int => if i = j then w else B 57 i)) (hv : B 56 j ≤ v) (hw : B 57 j ≤ w) (hk : k' = k + (v - B 56 j) + (w - B 57 j)) : LF A B' x k' := by
  have a := s8_le h.1 h0 h1
  have b := s8_le h.2.1 h0 h1
  have e1 := s8_u h56 h0 h1
  have e2 := s8_u h57 h0 h1
  have h4 := h.2.2
  exact ⟨N8_u h56 (by omega) h.1, N8_u h57 (by omega) h.2.1, by omega⟩
theorem LF_k {A B B' : qA} {x k x' k' : Int} (h : LF A B x k) (h56 : B' 56 = B 56) (h57 : B' 57 = B 57) (hx : x' = x) (hk : k' = k) : LF A B' x' k' := by
  subst hx hk
  unfold LF at h ⊢
  rw [h56, h57]
  exact h
theorem LF_n {A B : qA} {x k k' : Int} (h : LF A B x k) (hx : 0 ≤ x) (hk : k = 3 * (A 54 x + A 55 x) + k') : LF A B (x + 1) k' := by
  refine ⟨h.1, h.2.1, ?_⟩
  rw [p8_s hx, p8_s hx]
  have := h.2.2
  omega
theorem LF_0 {A B : qA} (h6 : ∀ i, 0 ≤ i → i < 8 → B 56 i = 0) (h7 : ∀ i, 0 ≤ i → i < 8 → B 57 i = 0) : LF A B 0 0 := by
  refine ⟨fun i a b => by rw [h6 i a b]; exact Int.le_refl _, fun i a b => by rw [h7 i a b]; exact Int.le_refl _, ?_⟩
  rw [s8_c (d := fun _ => 0) h6, s8_c (d := fun _ => 0) h7, p8_0, p8_0]
  rfl
theorem LF_e {A B : qA} {m : Int} (h : LF A B 8 0) (hp : LQ A m) : N8 (B 56) ∧ N8 (B 57) ∧ s8 (B 56) + s8 (B 57) ≤ 3 * m := by
  have h1 := h.2.2
  rw [p8_8, p8_8] at h1
  have h2 := hp.2.2
  exact ⟨h.1, h.2.1, by omega⟩
theorem LQ_f {B : qA} {m : Int} (h : N8 (B 56) ∧ N8 (B 57) ∧ s8 (B 56) + s8 (B 57) ≤ m) (h6 : ∀ i, 0 ≤ i → i < 8 → B 54 i = B 56 i ∧ B 55 i = B 57 i) : LQ B m := by
  refine ⟨fun i a b => by rw [(h6 i a b).1]; exact h.1 i a b, fun i a b => by rw [(h6 i a b).2]; exact h.2.1 i a b, ?_⟩
  rw [s8_c (fun i a b => (h6 i a b).1), s8_c (fun i a b => (h6 i a b).2)]
  exact h.2.2
theorem LQ_1 {B : qA} {f : Int} (h0 : 0 ≤ f) (h1 : f < 8) (h6 : ∀ i, 0 ≤ i → i < 8 → B 54 i = (if i = f then 1 else 0) ∧ B 55 i = 0) : LQ B 1 := by
  refine ⟨fun i a b => by rw [(h6 i a b).1]; split <;> decide, fun i a b => by rw [(h6 i a b).2]; decide, ?_⟩
  rw [s8_c (fun i a b => (h6 i a b).1), s8_c (d := fun _ => 0) (fun i a b => (h6 i a b).2)]
  rcases e8 h0 h1 with rfl | rfl | rfl | rfl | rfl | rfl | rfl | rfl <;> decide
theorem pN_le {c : Int → Int} (h : N8 c) : ∀ d k : Nat, k + d = 8 → pN c k ≤ pN c 8
  | 0, k, e => by
    have e : k = 8 := by omega
    rw [e]
    exact Int.le_refl _
  | d + 1, k, e => by
    have h1 := pN_le h d (k + 1) (by omega)
    have h2 := h k (by omega) (by omega)
    have h3 : pN c (k + 1) = pN c k + c k := rfl
    omega
theorem p8_le {c : Int → Int} {x : Int} (h : N8 c) (h0 : 0 ≤ x) (h1 : x ≤ 8) : p8 c x ≤ s8 c := by
  rw [← p8_8]
  exact pN_le h (8 - x.toNat) x.toNat (by omega)
def LG (A B : qA) (x b : Int) : Prop := ∃ k, LF A B x k ∧ (b = -1 → k = 0) ∧ (b = 0 → k = A 54 x + A 55 x) ∧ (b = 1 → k = 2 * (A 54 x + A 55 x)) ∧ (b = 2 → k = 3 * (A 54 x + A 55 x))
theorem LG_0 {A B : qA} {x : Int} (h : LF A B x 0) : LG A B x (-1) := ⟨0, h, fun _ => rfl, by omega, by omega, by omega⟩
theorem LG_b {A B : qA} {x b y m : Int} (h : LG A B x b) (hp : LQ A m) (x0 : 0 ≤ x) (x1 : x ≤ 7) (b0 : -1 ≤ b) (b1 : b ≤ 1) (y0 : 0 ≤ y) (y1 : y < 8) : 0 ≤ B 56 y ∧ 0 ≤ B 57 y ∧ B 56 y + B 57 y ≤ 6 * m ∧ 0 ≤ A 54 x ∧ 0 ≤ A 55 x ∧ A 54 x + A 55 x ≤ m := by
  obtain ⟨k, h, k0, k1, k2, k3⟩ := h
  have q1 := LQ_b hp x0 (by omega : x < 8)
  have q2 := s8_le h.1 y0 y1
  have q3 := s8_le h.2.1 y0 y1
  have q4 := p8_le hp.1 x0 (by omega : x ≤ 8)
  have q5 := p8_le hp.2.1 x0 (by omega : x ≤ 8)
  have q6 := h.2.2
  have q7 := hp.2.2
  exact ⟨q2.1, q3.1, by omega, q1.1, q1.2.1, q1.2.2⟩
theorem LG_1 {A B B' : qA} {x b j v w b' : Int} (h : LG A B x b) (h0 : 0 ≤ j) (h1 : j < 8) (h56 : B' 56 = (fun i : Int => if i = j then v else B 56 i)) (h57 : B' 57 = (fun i : Int => if i = j then w else B 57 i)) (hv : v = B 56 j + A 54 x) (hw : w = B 57 j + A 55 x) (p0 : 0 ≤ A 54 x) (p1 : 0 ≤ A 55 x) (b0 : -1 ≤ b) (b1 : b ≤ 1) (hb : b' = b + 1) : LG A B' x b' := by
  obtain ⟨k, h, k0, k1, k2, k3⟩ := h
  exact ⟨k + A 54 x + A 55 x, LF_1 h h0 h1 h56 h57 (by omega) (by omega) (by omega), by omega, by omega, by omega, by omega⟩
theorem LG_e {A B : qA} {x b x' : Int} (h : LG A B x b) (hb : b = 2) (hx : 0 ≤ x) (hx' : x' = x + 1) : LF A B x' 0 := by
  obtain ⟨k, h, k0, k1, k2, k3⟩ := h
  subst hx'
  exact LF_n h hx (by omega)
def FE (B : qA) (m : Int) : Prop := N8 (B 56) ∧ N8 (B 57) ∧ s8 (B 56) + s8 (B 57) ≤ m
theorem FE_k {B B' : qA} {m : Int} (h : FE B m) (h56 : B' 56 = B 56) (h57 : B' 57 = B 57) : FE B' m := by
  unfold FE at h ⊢
  rw [h56, h57]
  exact h
theorem FE_0 {A B : qA} {m x : Int} (h : LF A B x 0) (hx : x = 8) (hp : LQ A m) : FE B (3 * m) := by
  subst hx
  exact LF_e h hp
def sM_takesUp2 : qS := fun as A K => ∃ t k : Int, ∃ m : Int, as = [rf 0, ni t, ni k] ∧ (iva IM A ∧ ivf JM A ∧ 0 ≤ t ∧ t ≤ 7 ∧ (LQ A m) ∧ (m ≤ 9000000)) ∧ (∀ A' : qA, iva IM A' → ivf JM A' → frm [54, 55] [] A A' → ∀ r : Int, rngL r → (0 ≤ r) → (r ≤ m) → (LQ A' (m - r)) → K (some (nl r)) A')
theorem okM_takesUp2 : okM LM 2 225 sM_takesUp2 := by
  refine qmeth [] false [(224, sM_hasKind)] 49 rfl ⟨okM_hasKind.le (by decide), trivial⟩ ?_
  rintro _ A K hA has ⟨t, k, m, rfl, ⟨i0, j0, p1, p2, p3, p4⟩, hK⟩
  have rg_t : rng t := has (ni t) (by simp)
  have rg_k : rng k := has (ni k) (by simp)
  have f0 := frm_0 [54, 55] [] A
  refine ⟨Nat.le_of_ble_eq_true rfl, [(2, [(0, 2, 0), (1, 0, 0), (2, 0, 0), (3, 0, 0)], fun zs B nn => match zs with | [l1, l2, x] => iva IM B ∧ ivf JM B ∧ frm [54, 55] [] A B ∧ nn = (8 - x : Int).toNat ∧ (l1 = t) ∧ (l2 = k) ∧ (0 ≤ x) ∧ (x ≤ 8) ∧ (LQ B m) | _ => False)], ?_, ?_⟩
  · refine ⟨⟨rfl, ?_⟩, trivial⟩
    · refine fun l1 l2 x B mm hB hz hI => ?_
      obtain ⟨i1, j1, f1, hm, c0, c1, c2, c3, c4⟩ := hI
      obtain ⟨hz_l1, hz_l2, hz_x, _⟩ := hz
      refine And.intro (fun h5 => ?_) (fun h5 => ?_)
      · refine And.intro (by omega) (fun v6 e7 => ?_)
        refine fun (v8 : Int) (e9 : v8 = 0) => ?_
        refine And.intro (by omega) (fun A10 e11 => ?_)
        have i12 := iva_st i1 e11 trivial
        have j13 := ivf_sa j1 e11 rfl
        have f14 := frm_s f1 e11 rfl
        have hjb := LQ_b (by assumption : LQ B m) (j := l1) (by omega) (by omega)
        exact hK _ i12 j13 f14 _ (by omega) (by omega) (by omega) (LQ_o (by assumption : LQ B m) (j := l1) (by omega) (by omega) (st_a e11 rfl) (st_u e11) (by omega) (by omega))
      · refine Exists.intro x (Exists.intro l2 (And.intro rfl (And.intro (And.intro i1 (And.intro j1 (And.intro (by omega) (by omega)))) (fun r15 g16 g17 => ?_))))
        refine And.intro (fun h18 => ?_) (fun h18 => ?_)
        · refine And.intro (by omega) (fun v19 e20 => ?_)
          refine And.intro (by omega) (fun v21 e22 => ?_)
          have hjb := LQ_b (by assumption : LQ B m) (j := x) (by omega) (by omega)
          have hja := jadd_id (x := v19) (y := v21) (by omega)
          refine fun v23 e24 => ?_
          refine And.intro (by omega) (fun A25 e26 => ?_)
          have i27 := iva_st i1 e26 trivial
          have j28 := ivf_sa j1 e26 rfl
          have f29 := frm_s f1 e26 rfl
          refine fun (v30 : Int) (e31 : v30 = 0) => ?_
          refine And.intro (by omega) (fun A32 e33 => ?_)
          have i34 := iva_st i27 e33 trivial
          have j35 := ivf_sa j28 e33 rfl
          have f36 := frm_s f29 e33 rfl
          refine fun v37 e38 => ?_
          exact And.intro (by omega) (Exists.intro (8 - v37 : Int).toNat (And.intro (by omega) (And.intro i34 (And.intro j35 (And.intro f36 (And.intro rfl (And.intro (by omega) (And.intro (by omega) (And.intro (by omega) (And.intro (by omega) (by first | assumption | exact LQ_t (j := x) (by assumption : LQ B m) (by omega) (by omega) (Eq.trans (st_u e33) (cu (st_a e26 rfl))) (Eq.trans (st_a e33 rfl) (st_u e26)) (by omega) (by omega))))))))))))
        · refine fun v39 e40 => ?_
          exact And.intro (by omega) (Exists.intro (8 - v39 : Int).toNat (And.intro (by omega) (And.intro i1 (And.intro j1 (And.intro f1 (And.intro rfl (And.intro (by omega) (And.intro (by omega) (And.intro (by omega) (And.intro (by omega) (by first | assumption | exact LQ_t (j := x) (by assumption : LQ B m) (by omega) (by omega) rfl rfl (by omega) (by omega))))))))))))
  · exact Exists.intro (8 - 0 : Int).toNat (And.intro i0 (And.intro j0 (And.intro f0 (And.intro rfl (And.intro (by omega) (And.intro (by omega) (And.intro (by omega) (And.intro (by omega) (by first | assumption | exact LQ_t (j := x) (by assumption : LQ B m) (by omega) (by omega) hK hK (by omega) (by omega))))))))))
def sM_flies2 : qS := fun as A K => ∃ m : Int, as = [rf 0] ∧ (iva IM A ∧ ivf JM A ∧ (LQ A m) ∧ (m ≤ 9000000) ∧ (0 ≤ m)) ∧ (∀ A' : qA, iva IM A' → ivf JM A' → frm [54, 55, 56, 57] [] A A' → (LQ A' (3 * m)) → K none A')
theorem okM_flies2 : okM LM 2 227 sM_flies2 := by
  refine qmeth [] false [(226, sM_moved)] 91 rfl ⟨okM_moved.le (by decide), trivial⟩ ?_
  rintro _ A K hA has ⟨m, rfl, ⟨i0, j0, p1, p2, p3⟩, hK⟩
  have f0 := frm_0 [54, 55, 56, 57] [] A
  refine ⟨Nat.le_of_ble_eq_true rfl, [(2, [(0, 2, 0), (1, 0, 0)], fun zs B nn => match zs with | [x] => iva IM B ∧ ivf JM B ∧ frm [54, 55, 56, 57] [] A B ∧ nn = (3000 - x : Int).toNat ∧ (0 ≤ x) ∧ (x ≤ 8) ∧ (B 54 = A 54) ∧ (B 55 = A 55) ∧ (∀ i, 0 ≤ i → i < x → B 56 i = 0 ∧ B 57 i = 0) | _ => False), (19, [(0, 2, 0), (1, 0, 0)], fun zs B nn => match zs with | [x] => iva IM B ∧ ivf JM B ∧ frm [54, 55, 56, 57] [] A B ∧ nn = (2000 - x * 10 : Int).toNat ∧ (0 ≤ x) ∧ (x ≤ 8) ∧ (B 54 = A 54) ∧ (B 55 = A 55) ∧ (LF A B x 0) | _ => False), (63, [(0, 2, 0), (1, 0, 0)], fun zs B nn => match zs with | [x] => iva IM B ∧ ivf JM B ∧ frm [54, 55, 56, 57] [] A B ∧ nn = (8 - x : Int).toNat ∧ (0 ≤ x) ∧ (x ≤ 8) ∧ (FE B (3 * m)) ∧ (∀ i, 0 ≤ i → i < x → B 54 i = B 56 i ∧ B 55 i = B 57 i) | _ => False), (24, [(0, 2, 0), (1, 0, 0), (2, 0, 0)], fun zs B nn => match zs with | [x, b] => iva IM B ∧ ivf JM B ∧ frm [54, 55, 56, 57] [] A B ∧ nn = (2000 - x * 10 - 3 - b : Int).toNat ∧ (0 ≤ x) ∧ (x ≤ 7) ∧ ((-1) ≤ b) ∧ (b ≤ 2) ∧ (B 54 = A 54) ∧ (B 55 = A 55) ∧ (LG A B x b) | _ => False)], ?_, ?_⟩
  · refine ⟨⟨rfl, ?_⟩, ⟨rfl, ?_⟩, ⟨rfl, ?_⟩, ⟨rfl, ?_⟩, trivial⟩
    · refine fun x B mm hB hz hI => ?_
      obtain ⟨i1, j1, f1, hm, c0, c1, c2, c3, c4⟩ := hI
      obtain ⟨hz_x, _⟩ := hz
      refine And.intro (fun h4 => ?_) (fun h4 => ?_)
      · exact Exists.intro (2000 - 0 * 10 : Int).toNat (And.intro (by omega) (And.intro i1 (And.intro j1 (And.intro f1 (And.intro rfl (And.intro (by omega) (And.intro (by omega) (And.intro c2 (And.intro c3 (by first | exact LF_0 (fun i a b => (c4 i a (by omega)).1) (fun i a b => (c4 i a (by omega)).2) | exact LG_e (by assumption : LG A B x b) (by omega) (by omega) (by omega)))))))))))
      · refine fun (v5 : Int) (e6 : v5 = 0) => ?_
        refine And.intro (by omega) (fun A7 e8 => ?_)
        have i9 := iva_st i1 e8 trivial
        have j10 := ivf_sa j1 e8 rfl
        have f11 := frm_s f1 e8 rfl
        refine fun (v12 : Int) (e13 : v12 = 0) => ?_
        refine And.intro (by omega) (fun A14 e15 => ?_)
        have i16 := iva_st i9 e15 trivial
        have j17 := ivf_sa j10 e15 rfl
        have f18 := frm_s f11 e15 rfl
        refine fun v19 e20 => ?_
        exact And.intro (by omega) (Exists.intro (3000 - v19 : Int).toNat (And.intro (by omega) (And.intro i16 (And.intro j17 (And.intro f18 (And.intro rfl (And.intro (by omega) (And.intro (by omega) (And.intro (Eq.trans (Eq.trans (st_a e15 rfl) (st_a e8 rfl)) c2) (And.intro (Eq.trans (Eq.trans (st_a e15 rfl) (st_a e8 rfl)) c3) (by first | (intro i h0 h1; omega) | (intro i h0 h1; by_cases hi : i = x; (rw [hi]; exact ⟨(up_e (Eq.trans (st_a e15 rfl) (st_u e8))).trans (by omega), (up_e (Eq.trans (st_u e15) (cu (st_a e8 rfl)))).trans (by omega)⟩); (have q3 := c4 i h0 (by omega); exact ⟨(up_n (Eq.trans (st_a e15 rfl) (st_u e8)) hi).trans q3.1, (up_n (Eq.trans (st_u e15) (cu (st_a e8 rfl))) hi).trans q3.2⟩)))))))))))))
    · refine fun x B mm hB hz hI => ?_
      obtain ⟨i1, j1, f1, hm, c0, c1, c2, c3, c4⟩ := hI
      obtain ⟨hz_x, _⟩ := hz
      refine And.intro (fun h21 => ?_) (fun h21 => ?_)
      · exact Exists.intro (8 - 0 : Int).toNat (And.intro (by omega) (And.intro i1 (And.intro j1 (And.intro f1 (And.intro rfl (And.intro (by omega) (And.intro (by omega) (And.intro (by first | exact FE_0 (by assumption) (by omega) (by assumption) | exact FE_k (by assumption : FE B (3 * m)) rfl rfl) (by first | (intro i h0 h1; omega) | (intro i h0 h1; have q1 := congrFun (show B 56 = B 56 from rfl) i; have q2 := congrFun (show B 57 = B 57 from rfl) i; by_cases hi : i = x; (rw [hi] at q1 q2 ⊢; have u1 := up_e rfl; have u2 := up_e rfl; exact ⟨by omega, by omega⟩); (have u1 := up_n rfl hi; have u2 := up_n rfl hi; have q3 := c3 i h0 (by omega); exact ⟨by omega, by omega⟩)))))))))))
      · exact Exists.intro (2000 - x * 10 - 3 - (-1) : Int).toNat (And.intro (by omega) (And.intro i1 (And.intro j1 (And.intro f1 (And.intro rfl (And.intro (by omega) (And.intro (by omega) (And.intro (by omega) (And.intro (by omega) (And.intro c2 (And.intro c3 (by first | exact LG_0 (by assumption) | exact LG_1 (by assumption : LG A B x b) (by omega) (by omega) rfl rfl (by omega) (by omega) (by omega) (by omega) (by omega) (by omega) (by omega)))))))))))))
    · refine fun x B mm hB hz hI => ?_
      obtain ⟨i1, j1, f1, hm, c0, c1, c2, c3⟩ := hI
      obtain ⟨hz_x, _⟩ := hz
      refine And.intro (fun h22 => ?_) (fun h22 => ?_)
      · exact hK _ i1 j1 f1 (LQ_f (by assumption) (fun i a b => c3 i a (by omega)))
      · refine And.intro (by omega) (fun v23 e24 => ?_)
        refine And.intro (by omega) (fun A25 e26 => ?_)
        have i27 := iva_st i1 e26 trivial
        have j28 := ivf_sa j1 e26 rfl
        have f29 := frm_s f1 e26 rfl
        have h57c := congrFun (show A25 57 = B 57 from (st_a e26 rfl)) x
        refine And.intro (by omega) (fun v30 e31 => ?_)
        refine And.intro (by omega) (fun A32 e33 => ?_)
        have i34 := iva_st i27 e33 trivial
        have j35 := ivf_sa j28 e33 rfl
        have f36 := frm_s f29 e33 rfl
        refine fun v37 e38 => ?_
        exact And.intro (by omega) (Exists.intro (8 - v37 : Int).toNat (And.intro (by omega) (And.intro i34 (And.intro j35 (And.intro f36 (And.intro rfl (And.intro (by omega) (And.intro (by omega) (And.intro (by first | exact FE_0 (by assumption) (by omega) (by assumption) | exact FE_k (by assumption : FE B (3 * m)) (Eq.trans (st_a e33 rfl) (st_a e26 rfl)) (Eq.trans (st_a e33 rfl) (st_a e26 rfl))) (by first | (intro i h0 h1; omega) | (intro i h0 h1; have q1 := congrFun (show A32 56 = B 56 from (Eq.trans (st_a e33 rfl) (st_a e26 rfl))) i; have q2 := congrFun (show A32 57 = B 57 from (Eq.trans (st_a e33 rfl) (st_a e26 rfl))) i; by_cases hi : i = x; (rw [hi] at q1 q2 ⊢; have u1 := up_e (Eq.trans (st_a e33 rfl) (st_u e26)); have u2 := up_e (Eq.trans (st_u e33) (cu (st_a e26 rfl))); exact ⟨by omega, by omega⟩); (have u1 := up_n (Eq.trans (st_a e33 rfl) (st_u e26)) hi; have u2 := up_n (Eq.trans (st_u e33) (cu (st_a e26 rfl))) hi; have q3 := c3 i h0 (by omega); exact ⟨by omega, by omega⟩))))))))))))
    · refine fun x b B mm hB hz hI => ?_
      obtain ⟨i1, j1, f1, hm, c0, c1, c2, c3, c4, c5, c6⟩ := hI
      obtain ⟨hz_x, hz_b, _⟩ := hz
      refine And.intro (fun h39 => ?_) (fun h39 => ?_)
      · refine fun v40 e41 => ?_
        exact And.intro (by omega) (Exists.intro (2000 - v40 * 10 : Int).toNat (And.intro (by omega) (And.intro i1 (And.intro j1 (And.intro f1 (And.intro rfl (And.intro (by omega) (And.intro (by omega) (And.intro c4 (And.intro c5 (by first | exact LF_0 (fun i a b => (c4 i a (by omega)).1) (fun i a b => (c4 i a (by omega)).2) | exact LG_e (by assumption : LG A B x b) (by omega) (by omega) (by omega))))))))))))
      · refine Exists.intro x (Exists.intro b (And.intro rfl (And.intro (And.intro (by omega) (And.intro (by omega) (And.intro (by omega) (by omega)))) (fun r42 g43 g44 => ?_))))
        have hgb := LG_b (y := r42) (by assumption : LG A B x b) (by assumption : LQ A m) (by omega) (by omega) (by omega) (by omega) (by omega) (by omega)
        have h54 : B 54 x = A 54 x := congrFun c4 x
        have h55 : B 55 x = A 55 x := congrFun c5 x
        refine And.intro (by omega) (fun v45 e46 => ?_)
        refine And.intro (by omega) (fun v47 e48 => ?_)
        have hj1 := jadd_id (x := v45) (y := v47) (by omega)
        refine fun v49 e50 => ?_
        refine And.intro (by omega) (fun A51 e52 => ?_)
        have i53 := iva_st i1 e52 trivial
        have j54 := ivf_sa j1 e52 rfl
        have f55 := frm_s f1 e52 rfl
        have h57b := congrFun (show A51 57 = B 57 from (st_a e52 rfl)) r42
        have h55b := congrFun (show A51 55 = B 55 from (st_a e52 rfl)) x
        refine And.intro (by omega) (fun v56 e57 => ?_)
        refine And.intro (by omega) (fun v58 e59 => ?_)
        have hj2 := jadd_id (x := v56) (y := v58) (by omega)
        refine fun v60 e61 => ?_
        refine And.intro (by omega) (fun A62 e63 => ?_)
        have i64 := iva_st i53 e63 trivial
        have j65 := ivf_sa j54 e63 rfl
        have f66 := frm_s f55 e63 rfl
        refine fun v67 e68 => ?_
        exact And.intro (by omega) (Exists.intro (2000 - x * 10 - 3 - v67 : Int).toNat (And.intro (by omega) (And.intro i64 (And.intro j65 (And.intro f66 (And.intro rfl (And.intro (by omega) (And.intro (by omega) (And.intro (by omega) (And.intro (by omega) (And.intro (Eq.trans (Eq.trans (st_a e63 rfl) (st_a e52 rfl)) c4) (And.intro (Eq.trans (Eq.trans (st_a e63 rfl) (st_a e52 rfl)) c5) (by first | exact LG_0 (by assumption) | exact LG_1 (by assumption : LG A B x b) (by omega) (by omega) (Eq.trans (st_a e63 rfl) (st_u e52)) (Eq.trans (st_u e63) (cu (st_a e52 rfl))) (by omega) (by omega) (by omega) (by omega) (by omega) (by omega) (by omega))))))))))))))
  · exact Exists.intro (3000 - 0 : Int).toNat (And.intro i0 (And.intro j0 (And.intro f0 (And.intro rfl (And.intro (by omega) (And.intro (by omega) (And.intro rfl (And.intro rfl (by first | (intro i h0 h1; omega) | (intro i h0 h1; by_cases hi : i = x; (rw [hi]; exact ⟨(up_e hK).trans (by omega), (up_e hK).trans (by omega)⟩); (have q3 := hK i h0 (by omega); exact ⟨(up_n hK hi).trans q3.1, (up_n hK hi).trans q3.2⟩)))))))))))
def sM_pollen : qS := fun as A K => ∃ f t k s w : Int, as = [rf 0, ni f, ni t, ni k, ni s, ni w] ∧ (iva IM A ∧ ivf JM A) ∧ (∀ A' : qA, iva IM A' → ivf JM A' → frm [54, 55, 56, 57] [] A A' → ∀ r : Int, rngL r → K (some (nl r)) A')
theorem okM_pollen : okM LM 3 229 sM_pollen := by
  refine qmeth [] false [(145, sM_in), (225, sM_takesUp2), (228, sM_gcd), (227, sM_flies2)] 98 rfl ⟨okM_in.le (by decide), ⟨okM_takesUp2.le (by decide), ⟨okM_gcd.le (by decide), ⟨okM_flies2.le (by decide), trivial⟩⟩⟩⟩ ?_
  rintro _ A K hA has ⟨f, t, k, s, w, rfl, ⟨i0, j0⟩, hK⟩
  have rg_f : rng f := has (ni f) (by simp)
  have rg_t : rng t := has (ni t) (by simp)
  have rg_k : rng k := has (ni k) (by simp)
  have rg_s : rng s := has (ni s) (by simp)
  have rg_w : rng w := has (ni w) (by simp)
  have f0 := frm_0 [54, 55, 56, 57] [] A
  refine ⟨Nat.le_of_ble_eq_true rfl, [(29, [(0, 2, 0), (1, 0, 0), (2, 0, 0), (3, 0, 0), (4, 0, 0), (5, 0, 0), (6, 0, 0)], fun zs B nn => match zs with | [l1, l2, l3, l4, l5, x] => iva IM B ∧ ivf JM B ∧ frm [54, 55, 56, 57] [] A B ∧ nn = (500 - x : Int).toNat ∧ (l1 = f) ∧ (l2 = t) ∧ (l3 = k) ∧ (l4 = s) ∧ (l5 = w) ∧ (0 ≤ x) ∧ (x ≤ 8) ∧ (0 ≤ f) ∧ (f ≤ 7) ∧ (0 ≤ t) ∧ (t ≤ 7) ∧ (0 ≤ k) ∧ (k ≤ 5) ∧ (1 ≤ s) ∧ (s ≤ 12) ∧ (∀ i, 0 ≤ i → i < x → B 54 i = (if i = f then 1 else 0) ∧ B 55 i = 0) | _ => False), (58, [(0, 2, 0), (2, 0, 0), (3, 0, 0), (4, 0, 0), (5, 0, 0), (6, 1, 0), (8, 1, 0), (10, 0, 0)], fun zs B nn => match zs with | [l2, l3, l4, l5, u, y, n] => iva IM B ∧ ivf JM B ∧ frm [54, 55, 56, 57] [] A B ∧ nn = (12 - n : Int).toNat ∧ (l2 = t) ∧ (l3 = k) ∧ (l4 = s) ∧ (l5 = w) ∧ (0 ≤ f) ∧ (f ≤ 7) ∧ (0 ≤ t) ∧ (t ≤ 7) ∧ (0 ≤ k) ∧ (k ≤ 5) ∧ (1 ≤ s) ∧ (s ≤ 12) ∧ (0 ≤ n) ∧ (n ≤ 12) ∧ (0 ≤ u) ∧ (u ≤ y) ∧ (1 ≤ y) ∧ (y ≤ 531441) ∧ (LQ B (y - u)) ∧ (n = 0 → y = 1) ∧ (n = 1 → y = 3) ∧ (n = 2 → y = 9) ∧ (n = 3 → y = 27) ∧ (n = 4 → y = 81) ∧ (n = 5 → y = 243) ∧ (n = 6 → y = 729) ∧ (n = 7 → y = 2187) ∧ (n = 8 → y = 6561) ∧ (n = 9 → y = 19683) ∧ (n = 10 → y = 59049) ∧ (n = 11 → y = 177147) ∧ (n = 12 → y = 531441) | _ => False)], ?_, ?_⟩
  · refine ⟨⟨rfl, ?_⟩, ⟨rfl, ?_⟩, trivial⟩
    · refine fun l1 l2 l3 l4 l5 x B mm hB hz hI => ?_
      obtain ⟨i1, j1, f1, hm, c0, c1, c2, c3, c4, c5, c6, c7, c8, c9, c10, c11, c12, c13, c14, c15⟩ := hI
      obtain ⟨hz_l1, hz_l2, hz_l3, hz_l4, hz_l5, hz_x, _⟩ := hz
      refine And.intro (fun h16 => ?_) (fun h16 => ?_)
      · have lp1 : LQ B 1 := LQ_1 (f := f) (by omega) (by omega) (fun i a b => c15 i a (by omega))
        refine Exists.intro l2 (Exists.intro l3 (Exists.intro 1 (And.intro rfl (And.intro (And.intro i1 (And.intro j1 (And.intro (by omega) (And.intro (by omega) (And.intro (by first | assumption | omega | simp_all) (by first | assumption | omega | simp_all)))))) (fun A17 i18 j19 f20 r21 g25 g22 g23 g24 => ?_)))))
        have f26 := frm_c f1 f20 rfl
        refine fun (v27 : Int) (e28 : v27 = 1) => ?_
        exact Exists.intro (12 - 0 : Int).toNat (And.intro (by omega) (And.intro i18 (And.intro j19 (And.intro f26 (And.intro rfl (And.intro (by omega) (And.intro (by omega) (And.intro (by omega) (And.intro (by omega) (And.intro (by omega) (And.intro (by omega) (And.intro (by omega) (And.intro (by omega) (And.intro (by omega) (And.intro (by omega) (And.intro (by omega) (And.intro (by omega) (And.intro (by omega) (And.intro (by omega) (And.intro (by omega) (And.intro (by omega) (And.intro (by omega) (And.intro (by omega) (And.intro (by exact LQ_k g24 rfl rfl (by omega)) (And.intro (by omega) (And.intro (by omega) (And.intro (by omega) (And.intro (by omega) (And.intro (by omega) (And.intro (by omega) (And.intro (by omega) (And.intro (by omega) (And.intro (by omega) (And.intro (by omega) (And.intro (by omega) (And.intro (by omega) (by omega)))))))))))))))))))))))))))))))))))))
      · refine And.intro (fun h29 => ?_) (fun h29 => ?_)
        · refine fun (v30 : Int) (e31 : v30 = 0) => ?_
          refine And.intro (by omega) (fun A32 e33 => ?_)
          have i34 := iva_st i1 e33 trivial
          have j35 := ivf_sa j1 e33 rfl
          have f36 := frm_s f1 e33 rfl
          refine fun (v37 : Int) (e38 : v37 = 0) => ?_
          refine And.intro (by omega) (fun A39 e40 => ?_)
          have i41 := iva_st i34 e40 trivial
          have j42 := ivf_sa j35 e40 rfl
          have f43 := frm_s f36 e40 rfl
          refine fun v44 e45 => ?_
          exact And.intro (by omega) (Exists.intro (500 - v44 : Int).toNat (And.intro (by omega) (And.intro i41 (And.intro j42 (And.intro f43 (And.intro rfl (And.intro (by omega) (And.intro (by omega) (And.intro (by omega) (And.intro (by omega) (And.intro (by omega) (And.intro (by omega) (And.intro (by omega) (And.intro (by omega) (And.intro (by omega) (And.intro (by omega) (And.intro (by omega) (And.intro (by omega) (And.intro (by omega) (And.intro (by omega) (And.intro (by omega) (by first | (intro i h0 h1; omega) | (intro i h0 h1; by_cases hi : i = x; (rw [hi]; first | exact ⟨(up_e (Eq.trans (st_a e40 rfl) (st_u e33))).trans (by rw [if_pos (by omega)]; omega), (up_e (Eq.trans (st_u e40) (cu (st_a e33 rfl)))).trans (by omega)⟩ | exact ⟨(up_e (Eq.trans (st_a e40 rfl) (st_u e33))).trans (by rw [if_neg (by omega)]; omega), (up_e (Eq.trans (st_u e40) (cu (st_a e33 rfl)))).trans (by omega)⟩); (have q3 := c15 i h0 (by omega); exact ⟨(up_n (Eq.trans (st_a e40 rfl) (st_u e33)) hi).trans q3.1, (up_n (Eq.trans (st_u e40) (cu (st_a e33 rfl))) hi).trans q3.2⟩))))))))))))))))))))))))
        · refine fun (v46 : Int) (e47 : v46 = 1) => ?_
          refine And.intro (by omega) (fun A48 e49 => ?_)
          have i50 := iva_st i1 e49 trivial
          have j51 := ivf_sa j1 e49 rfl
          have f52 := frm_s f1 e49 rfl
          refine fun (v53 : Int) (e54 : v53 = 0) => ?_
          refine And.intro (by omega) (fun A55 e56 => ?_)
          have i57 := iva_st i50 e56 trivial
          have j58 := ivf_sa j51 e56 rfl
          have f59 := frm_s f52 e56 rfl
          refine fun v60 e61 => ?_
          exact And.intro (by omega) (Exists.intro (500 - v60 : Int).toNat (And.intro (by omega) (And.intro i57 (And.intro j58 (And.intro f59 (And.intro rfl (And.intro (by omega) (And.intro (by omega) (And.intro (by omega) (And.intro (by omega) (And.intro (by omega) (And.intro (by omega) (And.intro (by omega) (And.intro (by omega) (And.intro (by omega) (And.intro (by omega) (And.intro (by omega) (And.intro (by omega) (And.intro (by omega) (And.intro (by omega) (And.intro (by omega) (by first | (intro i h0 h1; omega) | (intro i h0 h1; by_cases hi : i = x; (rw [hi]; first | exact ⟨(up_e (Eq.trans (st_a e56 rfl) (st_u e49))).trans (by rw [if_pos (by omega)]; omega), (up_e (Eq.trans (st_u e56) (cu (st_a e49 rfl)))).trans (by omega)⟩ | exact ⟨(up_e (Eq.trans (st_a e56 rfl) (st_u e49))).trans (by rw [if_neg (by omega)]; omega), (up_e (Eq.trans (st_u e56) (cu (st_a e49 rfl)))).trans (by omega)⟩); (have q3 := c15 i h0 (by omega); exact ⟨(up_n (Eq.trans (st_a e56 rfl) (st_u e49)) hi).trans q3.1, (up_n (Eq.trans (st_u e56) (cu (st_a e49 rfl))) hi).trans q3.2⟩))))))))))))))))))))))))
    · refine fun l2 l3 l4 l5 u y n B mm hB hz hI => ?_
      obtain ⟨i1, j1, f1, hm, c0, c1, c2, c3, c4, c5, c6, c7, c8, c9, c10, c11, c12, c13, c14, c15, c16, c17, c18, c19, c20, c21, c22, c23, c24, c25, c26, c27, c28, c29, c30, c31⟩ := hI
      obtain ⟨hz_l2, hz_l3, hz_l4, hz_l5, hz_u, hz_y, hz_n, _⟩ := hz
      refine And.intro (fun h62 => ?_) (fun h62 => ?_)
      · refine Exists.intro u (Exists.intro y (And.intro rfl (And.intro (And.intro (by first | assumption | omega | simp_all) (And.intro (by first | assumption | omega | simp_all) (by first | assumption | omega | simp_all))) (fun r63 g65 g64 => ?_))))
        refine And.intro (fun h66 => ?_) (fun h66 => ?_)
        · refine And.intro (by omega) (fun v67 e68 => ?_)
          exact hK _ i1 j1 f1 _ (by first | assumption | omega | (subst_vars; exact l_rng _) | (subst_vars; exact (hB _ _).1) | exact qnL_rng (by decide))
        · refine And.intro (by omega) (fun v69 e70 => ?_)
          exact hK _ i1 j1 f1 _ (by first | assumption | omega | (subst_vars; exact l_rng _) | (subst_vars; exact (hB _ _).1) | exact qnL_rng (by decide))
      · refine Exists.intro (y - u) (And.intro rfl (And.intro (And.intro i1 (And.intro j1 (And.intro (by first | assumption | omega | simp_all) (And.intro (by first | assumption | omega | simp_all) (by first | assumption | omega | simp_all))))) (fun A71 i72 j73 f74 g75 => ?_)))
        have f76 := frm_c f1 f74 rfl
        have hm1 := jmul3 (y := y) (by omega)
        refine fun v77 e78 => ?_
        have hm2 := jmul3 (y := u) (by omega)
        refine fun v79 e80 => ?_
        refine Exists.intro l2 (Exists.intro l3 (Exists.intro (3 * (y - u)) (And.intro rfl (And.intro (And.intro i72 (And.intro j73 (And.intro (by omega) (And.intro (by omega) (And.intro (by first | assumption | omega | simp_all) (by first | assumption | omega | simp_all)))))) (fun A81 i82 j83 f84 r85 g89 g86 g87 g88 => ?_)))))
        have f90 := frm_c f76 f84 rfl
        have hm3 := jadd_id (x := v79) (y := r85) (by omega)
        refine fun v91 e92 => ?_
        refine fun v93 e94 => ?_
        exact And.intro (by omega) (Exists.intro (12 - v93 : Int).toNat (And.intro (by omega) (And.intro i82 (And.intro j83 (And.intro f90 (And.intro rfl (And.intro (by omega) (And.intro (by omega) (And.intro (by omega) (And.intro (by omega) (And.intro (by omega) (And.intro (by omega) (And.intro (by omega) (And.intro (by omega) (And.intro (by omega) (And.intro (by omega) (And.intro (by omega) (And.intro (by omega) (And.intro (by omega) (And.intro (by omega) (And.intro (by omega) (And.intro (by omega) (And.intro (by omega) (And.intro (by omega) (And.intro (by exact LQ_k g88 rfl rfl (by omega)) (And.intro (by omega) (And.intro (by omega) (And.intro (by omega) (And.intro (by omega) (And.intro (by omega) (And.intro (by omega) (And.intro (by omega) (And.intro (by omega) (And.intro (by omega) (And.intro (by omega) (And.intro (by omega) (And.intro (by omega) (by omega))))))))))))))))))))))))))))))))))))))
  · refine Exists.intro f (Exists.intro 0 (Exists.intro 7 (And.intro rfl (And.intro (fun h1 => ?_) (fun h1 => ?_)))))
    · refine And.intro (fun h2 => by exfalso; omega) (fun h2 => ?_)
      refine Exists.intro t (Exists.intro 0 (Exists.intro 7 (And.intro rfl (And.intro (fun h3 => ?_) (fun h3 => ?_)))))
      · refine And.intro (fun h4 => by exfalso; omega) (fun h4 => ?_)
        refine Exists.intro k (Exists.intro 0 (Exists.intro 5 (And.intro rfl (And.intro (fun h5 => ?_) (fun h5 => ?_)))))
        · refine And.intro (fun h6 => by exfalso; omega) (fun h6 => ?_)
          refine Exists.intro s (Exists.intro 1 (Exists.intro 12 (And.intro rfl (And.intro (fun h7 => ?_) (fun h7 => ?_)))))
          · refine And.intro (fun h8 => by exfalso; omega) (fun h8 => ?_)
            refine Exists.intro w (Exists.intro 0 (Exists.intro 1 (And.intro rfl (And.intro (fun h9 => ?_) (fun h9 => ?_)))))
            · refine And.intro (fun h10 => ?_) (fun h10 => by exfalso; omega)
              exact Exists.intro (500 - 0 : Int).toNat (And.intro i0 (And.intro j0 (And.intro f0 (And.intro rfl (And.intro (by omega) (And.intro (by omega) (And.intro (by omega) (And.intro (by omega) (And.intro (by omega) (And.intro (by omega) (And.intro (by omega) (And.intro (by omega) (And.intro (by omega) (And.intro (by omega) (And.intro (by omega) (And.intro (by omega) (And.intro (by omega) (And.intro (by omega) (And.intro (by omega) (by first | (intro i h0 h1; omega) | (intro i h0 h1; by_cases hi : i = x; (rw [hi]; first | exact ⟨(up_e hK).trans (by rw [if_pos (by omega)]; omega), (up_e hK).trans (by omega)⟩ | exact ⟨(up_e hK).trans (by rw [if_neg (by omega)]; omega), (up_e hK).trans (by omega)⟩); (have q3 := hK i h0 (by omega); exact ⟨(up_n hK hi).trans q3.1, (up_n hK hi).trans q3.2⟩))))))))))))))))))))))
            · refine And.intro (fun h11 => by exfalso; omega) (fun h11 => ?_)
              exact hK _ i0 j0 f0 _ (by first | assumption | omega | (subst_vars; exact l_rng _) | (subst_vars; exact (hB _ _).1) | exact qnL_rng (by decide))
          · refine And.intro (fun h12 => ?_) (fun h12 => by exfalso; omega)
            exact hK _ i0 j0 f0 _ (by first | assumption | omega | (subst_vars; exact l_rng _) | (subst_vars; exact (hB _ _).1) | exact qnL_rng (by decide))
        · refine And.intro (fun h13 => ?_) (fun h13 => by exfalso; omega)
          exact hK _ i0 j0 f0 _ (by first | assumption | omega | (subst_vars; exact l_rng _) | (subst_vars; exact (hB _ _).1) | exact qnL_rng (by decide))
      · refine And.intro (fun h14 => ?_) (fun h14 => by exfalso; omega)
        exact hK _ i0 j0 f0 _ (by first | assumption | omega | (subst_vars; exact l_rng _) | (subst_vars; exact (hB _ _).1) | exact qnL_rng (by decide))
    · refine And.intro (fun h15 => ?_) (fun h15 => by exfalso; omega)
      exact hK _ i0 j0 f0 _ (by first | assumption | omega | (subst_vars; exact l_rng _) | (subst_vars; exact (hB _ _).1) | exact qnL_rng (by decide))
