/-! eight numbers together -/
def s8 (c : Int → Int) : Int := c 0 + c 1 + c 2 + c 3 + c 4 + c 5 + c 6 + c 7
def N8 (c : Int → Int) : Prop := ∀ i, 0 ≤ i → i < 8 → 0 ≤ c i
theorem e8 {j : Int} (h0 : 0 ≤ j) (h1 : j < 8) : j = 0 ∨ j = 1 ∨ j = 2 ∨ j = 3 ∨ j = 4 ∨ j = 5 ∨ j = 6 ∨ j = 7 := by (first | (clear hm hnf; omega) | omega)
theorem N8_p {c : Int → Int} (h : N8 c) : 0 ≤ c 0 ∧ 0 ≤ c 1 ∧ 0 ≤ c 2 ∧ 0 ≤ c 3 ∧ 0 ≤ c 4 ∧ 0 ≤ c 5 ∧ 0 ≤ c 6 ∧ 0 ≤ c 7 :=
  ⟨h 0 (by decide) (by decide), h 1 (by decide) (by decide), h 2 (by decide) (by decide), h 3 (by decide) (by decide), h 4 (by decide) (by decide), h 5 (by decide) (by decide), h 6 (by decide) (by decide), h 7 (by decide) (by decide)⟩
theorem s8_nn {c : Int → Int} (h : N8 c) : 0 ≤ s8 c := by
  have := N8_p h
  unfold s8
  omega
theorem s8_le {c : Int → Int} {j : Int} (h : N8 c) (h0 : 0 ≤ j) (h1 : j < 8) : 0 ≤ c j ∧ c j ≤ s8 c := by
  have := N8_p h
  unfold s8
  rcases e8 h0 h1 with rfl | rfl | rfl | rfl | rfl | rfl | rfl | rfl <;> omega
theorem s8_u {c c' : Int → Int} {j v : Int} (h : c' = (fun i : Int => if i = j then v else c i)) (h0 : 0 ≤ j) (h1 : j < 8) : s8 c' = s8 c + v - c j := by
  unfold s8
  have hn : ∀ i, i ≠ j → c' i = c i := fun i hi => up_n h hi
  have he := up_e h
  rcases e8 h0 h1 with rfl | rfl | rfl | rfl | rfl | rfl | rfl | rfl
  · rw [he, hn 1 (by decide), hn 2 (by decide), hn 3 (by decide), hn 4 (by decide), hn 5 (by decide), hn 6 (by decide), hn 7 (by decide)]; omega
  · rw [he, hn 0 (by decide), hn 2 (by decide), hn 3 (by decide), hn 4 (by decide), hn 5 (by decide), hn 6 (by decide), hn 7 (by decide)]; omega
  · rw [he, hn 1 (by decide), hn 0 (by decide), hn 3 (by decide), hn 4 (by decide), hn 5 (by decide), hn 6 (by decide), hn 7 (by decide)]; omega
  · rw [he, hn 1 (by decide), hn 2 (by decide), hn 0 (by decide), hn 4 (by decide), hn 5 (by decide), hn 6 (by decide), hn 7 (by decide)]; omega
  · rw [he, hn 1 (by decide), hn 2 (by decide), hn 3 (by decide), hn 0 (by decide), hn 5 (by decide), hn 6 (by decide), hn 7 (by decide)]; omega
  · rw [he, hn 1 (by decide), hn 2 (by decide), hn 3 (by decide), hn 4 (by decide), hn 0 (by decide), hn 6 (by decide), hn 7 (by decide)]; omega
  · rw [he, hn 1 (by decide), hn 2 (by decide), hn 3 (by decide), hn 4 (by decide), hn 5 (by decide), hn 0 (by decide), hn 7 (by decide)]; omega
  · rw [he, hn 1 (by decide), hn 2 (by decide), hn 3 (by decide), hn 4 (by decide), hn 5 (by decide), hn 6 (by decide), hn 0 (by decide)]; omega
theorem N8_u {c c' : Int → Int} {j v : Int} (h : c' = (fun i : Int => if i = j then v else c i)) (hv : 0 ≤ v) (hc : N8 c) : N8 c' := by
  intro i h0 h1
  by_cases hi : i = j
  · rw [hi, up_e h]; exact hv
  · rw [up_n h hi]; exact hc i h0 h1
/-- the first ones together -/
def pN (c : Int → Int) : Nat → Int
  | 0 => 0
  | n + 1 => pN c n + c n
def p8 (c : Int → Int) (k : Int) : Int := pN c k.toNat
theorem p8_0 (c : Int → Int) : p8 c 0 = 0 := rfl
theorem p8_s {c : Int → Int} {k : Int} (h : 0 ≤ k) : p8 c (k + 1) = p8 c k + c k := by
  obtain ⟨n, rfl⟩ := Int.eq_ofNat_of_zero_le h
  have e : ((n : Int) + 1).toNat = n + 1 := by (first | (clear hm hnf; omega) | omega)
  have e2 : ((n : Nat) : Int).toNat = n := by (first | (clear hm hnf; omega) | omega)
  unfold p8
  rw [e, e2]
  rfl
theorem p8_8 (c : Int → Int) : p8 c 8 = s8 c := by
  show (0 + c (0 : Nat) + c (1 : Nat) + c (2 : Nat) + c (3 : Nat) + c (4 : Nat) + c (5 : Nat) + c (6 : Nat) + c (7 : Nat)) = s8 c
  unfold s8
  have z : (0 : Int) + c ((0 : Nat) : Int) = c 0 := by rw [Int.zero_add]; rfl
  rw [z]
  rfl
theorem s8_c {c d : Int → Int} (h : ∀ i, 0 ≤ i → i < 8 → c i = d i) : s8 c = s8 d := by
  unfold s8
  rw [h 0 (by decide) (by decide), h 1 (by decide) (by decide), h 2 (by decide) (by decide), h 3 (by decide) (by decide), h 4 (by decide) (by decide), h 5 (by decide) (by decide), h 6 (by decide) (by decide), h 7 (by decide) (by decide)]
theorem jadd_id {x y : Int} (h : rngL (x + y)) : jadd x y = x + y := iL_to h
theorem jmul3 {y : Int} (h : rngL (3 * y)) : jmul (qnL 3) y = 3 * y := by
  rw [show qnL 3 = 3 by decide]
  exact iL_to h
/-- how many birds there are, with and without -/
def LQ (A : qA) (m : Int) : Prop := N8 (A 54) ∧ N8 (A 55) ∧ s8 (A 54) + s8 (A 55) ≤ m
theorem LQ_k {A A' : qA} {m m' : Int} (h : LQ A m) (h54 : A' 54 = A 54) (h55 : A' 55 = A 55) (hm : m ≤ m') : LQ A' m' := by
  unfold LQ at h ⊢
  rw [h54, h55]
  exact ⟨h.1, h.2.1, by (first | (clear hm hnf; omega) | omega)⟩
theorem LQ_b {A : qA} {m j : Int} (h : LQ A m) (h0 : 0 ≤ j) (h1 : j < 8) : 0 ≤ A 54 j ∧ 0 ≤ A 55 j ∧ A 54 j + A 55 j ≤ m := by
  have h2 := s8_le h.1 h0 h1
  have h3 := s8_le h.2.1 h0 h1
  have h4 := h.2.2
  exact ⟨h2.1, h3.1, by (first | (clear hm hnf; omega) | omega)⟩
theorem LQ_t {A A' : qA} {m j v w : Int} (h : LQ A m) (h0 : 0 ≤ j) (h1 : j < 8) (h54 : A' 54 = (fun i : Int => if i = j then w else A 54 i)) (h55 : A' 55 = (fun i : Int => if i = j then v else A 55 i)) (hv : v = A 55 j + A 54 j) (hw : w = 0) : LQ A' m := by
  have h2 := LQ_b h h0 h1
  have e1 := s8_u h54 h0 h1
  have e2 := s8_u h55 h0 h1
  have h4 := h.2.2
  exact ⟨N8_u h54 (by (first | (clear hm hnf; omega) | omega)) h.1, N8_u h55 (by (first | (clear hm hnf; omega) | omega)) h.2.1, by (first | (clear hm hnf; omega) | omega)⟩
theorem LQ_o {A A' : qA} {m j w r : Int} (h : LQ A m) (h0 : 0 ≤ j) (h1 : j < 8) (h54 : A' 54 = A 54) (h55 : A' 55 = (fun i : Int => if i = j then w else A 55 i)) (hw : w = 0) (hr : r = A 55 j) : LQ A' (m - r) := by
  have h2 := LQ_b h h0 h1
  have e2 := s8_u h55 h0 h1
  have h4 := h.2.2
  refine ⟨by rw [h54]; exact h.1, N8_u h55 (by (first | (clear hm hnf; omega) | omega)) h.2.1, by rw [h54]; omega⟩
/-- in flight -/
def LF (A B : qA) (x k : Int) : Prop := N8 (B 56) ∧ N8 (B 57) ∧ s8 (B 56) + s8 (B 57) = 3 * (p8 (A 54) x + p8 (A 55) x) + k
theorem LF_1 {A B B' : qA} {x k j v w k' : Int} (h : LF A B x k) (h0 : 0 ≤ j) (h1 : j < 8) (h56 : B' 56 = (fun i : Int => if i = j then v else B 56 i)) (h57 : B' 57 = (fun i : Int => if i = j then w else B 57 i)) (hv : B 56 j ≤ v) (hw : B 57 j ≤ w) (hk : k' = k + (v - B 56 j) + (w - B 57 j)) : LF A B' x k' := by
  have a := s8_le h.1 h0 h1
  have b := s8_le h.2.1 h0 h1
  have e1 := s8_u h56 h0 h1
  have e2 := s8_u h57 h0 h1
  have h4 := h.2.2
  exact ⟨N8_u h56 (by (first | (clear hm hnf; omega) | omega)) h.1, N8_u h57 (by (first | (clear hm hnf; omega) | omega)) h.2.1, by (first | (clear hm hnf; omega) | omega)⟩
theorem LF_k {A B B' : qA} {x k x' k' : Int} (h : LF A B x k) (h56 : B' 56 = B 56) (h57 : B' 57 = B 57) (hx : x' = x) (hk : k' = k) : LF A B' x' k' := by
  subst hx hk
  unfold LF at h ⊢
  rw [h56, h57]
  exact h
theorem LF_n {A B : qA} {x k k' : Int} (h : LF A B x k) (hx : 0 ≤ x) (hk : k = 3 * (A 54 x + A 55 x) + k') : LF A B (x + 1) k' := by
  refine ⟨h.1, h.2.1, ?_⟩
  rw [p8_s hx, p8_s hx]
  have := h.2.2
  omega
theorem LF_0 {A B : qA} (h6 : ∀ i, 0 ≤ i → i < 8 → B 56 i = 0) (h7 : ∀ i, 0 ≤ i → i < 8 → B 57 i = 0) : LF A B 0 0 := by
  refine ⟨fun i a b => by rw [h6 i a b]; exact Int.le_refl _, fun i a b => by rw [h7 i a b]; exact Int.le_refl _, ?_⟩
  rw [s8_c (d := fun _ => 0) h6, s8_c (d := fun _ => 0) h7, p8_0, p8_0]
  rfl
theorem LF_e {A B : qA} {m : Int} (h : LF A B 8 0) (hp : LQ A m) : N8 (B 56) ∧ N8 (B 57) ∧ s8 (B 56) + s8 (B 57) ≤ 3 * m := by
  have h1 := h.2.2
  rw [p8_8, p8_8] at h1
  have h2 := hp.2.2
  exact ⟨h.1, h.2.1, by (first | (clear hm hnf; omega) | omega)⟩
theorem LQ_f {B : qA} {m : Int} (h : N8 (B 56) ∧ N8 (B 57) ∧ s8 (B 56) + s8 (B 57) ≤ m) (h6 : ∀ i, 0 ≤ i → i < 8 → B 54 i = B 56 i ∧ B 55 i = B 57 i) : LQ B m := by
  refine ⟨fun i a b => by rw [(h6 i a b).1]; exact h.1 i a b, fun i a b => by rw [(h6 i a b).2]; exact h.2.1 i a b, ?_⟩
  rw [s8_c (fun i a b => (h6 i a b).1), s8_c (fun i a b => (h6 i a b).2)]
  exact h.2.2
theorem LQ_1 {B : qA} {f : Int} (h0 : 0 ≤ f) (h1 : f < 8) (h6 : ∀ i, 0 ≤ i → i < 8 → B 54 i = (if i = f then 1 else 0) ∧ B 55 i = 0) : LQ B 1 := by
  refine ⟨fun i a b => by rw [(h6 i a b).1]; split <;> decide, fun i a b => by rw [(h6 i a b).2]; decide, ?_⟩
  rw [s8_c (fun i a b => (h6 i a b).1), s8_c (d := fun _ => 0) (fun i a b => (h6 i a b).2)]
  rcases e8 h0 h1 with rfl | rfl | rfl | rfl | rfl | rfl | rfl | rfl <;> decide
theorem pN_le {c : Int → Int} (h : N8 c) : ∀ d k : Nat, k + d = 8 → pN c k ≤ pN c 8
  | 0, k, e => by
    have e : k = 8 := by (first | (clear hm hnf; omega) | omega)
    rw [e]
    exact Int.le_refl _
  | d + 1, k, e => by
    have h1 := pN_le h d (k + 1) (by (first | (clear hm hnf; omega) | omega))
    have h2 := h k (by (first | (clear hm hnf; omega) | omega)) (by (first | (clear hm hnf; omega) | omega))
    have h3 : pN c (k + 1) = pN c k + c k := rfl
    omega
theorem p8_le {c : Int → Int} {x : Int} (h : N8 c) (h0 : 0 ≤ x) (h1 : x ≤ 8) : p8 c x ≤ s8 c := by
  rw [← p8_8]
  exact pN_le h (8 - x.toNat) x.toNat (by (first | (clear hm hnf; omega) | omega))
def LG (A B : qA) (x b : Int) : Prop := ∃ k, LF A B x k ∧ (b = -1 → k = 0) ∧ (b = 0 → k = A 54 x + A 55 x) ∧ (b = 1 → k = 2 * (A 54 x + A 55 x)) ∧ (b = 2 → k = 3 * (A 54 x + A 55 x))
theorem LG_0 {A B : qA} {x : Int} (h : LF A B x 0) : LG A B x (-1) := ⟨0, h, fun _ => rfl, by (first | (clear hm hnf; omega) | omega), by (first | (clear hm hnf; omega) | omega), by (first | (clear hm hnf; omega) | omega)⟩
theorem LG_b {A B : qA} {x b y m : Int} (h : LG A B x b) (hp : LQ A m) (x0 : 0 ≤ x) (x1 : x ≤ 7) (b0 : -1 ≤ b) (b1 : b ≤ 1) (y0 : 0 ≤ y) (y1 : y < 8) : 0 ≤ B 56 y ∧ 0 ≤ B 57 y ∧ B 56 y + B 57 y ≤ 6 * m ∧ 0 ≤ A 54 x ∧ 0 ≤ A 55 x ∧ A 54 x + A 55 x ≤ m := by
  obtain ⟨k, h, k0, k1, k2, k3⟩ := h
  have q1 := LQ_b hp x0 (by (first | (clear hm hnf; omega) | omega) : x < 8)
  have q2 := s8_le h.1 y0 y1
  have q3 := s8_le h.2.1 y0 y1
  have q4 := p8_le hp.1 x0 (by (first | (clear hm hnf; omega) | omega) : x ≤ 8)
  have q5 := p8_le hp.2.1 x0 (by (first | (clear hm hnf; omega) | omega) : x ≤ 8)
  have q6 := h.2.2
  have q7 := hp.2.2
  exact ⟨q2.1, q3.1, by (first | (clear hm hnf; omega) | omega), q1.1, q1.2.1, q1.2.2⟩
theorem LG_1 {A B B' : qA} {x b j v w b' : Int} (h : LG A B x b) (h0 : 0 ≤ j) (h1 : j < 8) (h56 : B' 56 = (fun i : Int => if i = j then v else B 56 i)) (h57 : B' 57 = (fun i : Int => if i = j then w else B 57 i)) (hv : v = B 56 j + A 54 x) (hw : w = B 57 j + A 55 x) (p0 : 0 ≤ A 54 x) (p1 : 0 ≤ A 55 x) (b0 : -1 ≤ b) (b1 : b ≤ 1) (hb : b' = b + 1) : LG A B' x b' := by
  obtain ⟨k, h, k0, k1, k2, k3⟩ := h
  exact ⟨k + A 54 x + A 55 x, LF_1 h h0 h1 h56 h57 (by (first | (clear hm hnf; omega) | omega)) (by (first | (clear hm hnf; omega) | omega)) (by (first | (clear hm hnf; omega) | omega)), by (first | (clear hm hnf; omega) | omega), by (first | (clear hm hnf; omega) | omega), by (first | (clear hm hnf; omega) | omega), by (first | (clear hm hnf; omega) | omega)⟩
theorem LG_e {A B : qA} {x b x' : Int} (h : LG A B x b) (hb : b = 2) (hx : 0 ≤ x) (hx' : x' = x + 1) : LF A B x' 0 := by
  obtain ⟨k, h, k0, k1, k2, k3⟩ := h
  subst hx'
  exact LF_n h hx (by (first | (clear hm hnf; omega) | omega))
def FE (B : qA) (m : Int) : Prop := N8 (B 56) ∧ N8 (B 57) ∧ s8 (B 56) + s8 (B 57) ≤ m
theorem FE_k {B B' : qA} {m : Int} (h : FE B m) (h56 : B' 56 = B 56) (h57 : B' 57 = B 57) : FE B' m := by
  unfold FE at h ⊢
  rw [h56, h57]
  exact h
theorem FE_0 {A B : qA} {m x : Int} (h : LF A B x 0) (hx : x = 8) (hp : LQ A m) : FE B (3 * m) := by
  subst hx
  exact LF_e h hp
def fM_takesUp2_c2 (rec : Nat → List Int → qA → Int × qA) (l1 l2 x : Int) (B : qA) : Int × qA := (if x < 8 then qlet (fM_hasKind x l2 B) fun r15 => (if r15 = 0 then qlet (x + 1) fun v40 => rec 2 [l1, l2, v40] B else qlet (B 55 x) fun v20 => qlet (B 54 x) fun v22 => qlet (jadd v20 v22) fun v24 => qlet (qu B 55 x v24) fun A26 => qlet ((0 : Int)) fun v31 => qlet (qu A26 54 x v31) fun A33 => qlet (x + 1) fun v38 => rec 2 [l1, l2, v38] A33) else qlet (B 55 l1) fun v6 => qlet ((0 : Int)) fun v8 => qlet (qu B 55 l1 v8) fun A10 => (v6, A10))
def fM_takesUp2_L : Nat → Nat → List Int → qA → Int × qA
  | 0 => fun _ _ B => (0, B)
  | nF + 1 => fun k zs B => bif Nat.beq k 2 then (match zs with | [l1, l2, x] => fM_takesUp2_c2 (fM_takesUp2_L nF) l1 l2 x B | _ => (0, B)) else (0, B)
theorem fM_takesUp2_L2 (nF : Nat) (l1 l2 x : Int) (B : qA) : fM_takesUp2_L (nF + 1) 2 [l1, l2, x] B = fM_takesUp2_c2 (fM_takesUp2_L nF) l1 l2 x B := (congrFun (congrFun (congrFun (fM_takesUp2_L.eq_2 nF) 2) [l1, l2, x]) B).trans (qL1 rfl rfl)
def fM_takesUp2 (t k : Int) (A : qA) : Int × qA := (fM_takesUp2_L 100000) 2 [t, k, 0] A
def sM_takesUp2 : qS := fun as A K => ∃ t k : Int, ∃ m : Int, as = [rf 0, ni t, ni k] ∧ (iva IM A ∧ ivf JM A ∧ 0 ≤ t ∧ t ≤ 7 ∧ (LQ A m) ∧ (m ≤ 9000000)) ∧ (∀ A' : qA, iva IM A' → ivf JM A' → frm [54, 55] [] A A' → ∀ r : Int, rngL r → (0 ≤ r) → (r ≤ m) → (LQ A' (m - r)) → (r = (fM_takesUp2 t k A).1) → (A' = (fM_takesUp2 t k A).2) → K (some (nl r)) A')
theorem okM_takesUp2 : okM LM 2 225 sM_takesUp2 := by
  refine qmeth [] false [(224, sM_hasKind)] 49 rfl ⟨okM_hasKind.le (by decide), trivial⟩ ?_
  rintro _ A K hA has ⟨t, k, m, rfl, ⟨i0, j0, p1, p2, p3, p4⟩, hK⟩
  have rg_t : rng t := has (ni t) (by simp)
  have rg_k : rng k := has (ni k) (by simp)
  have f0 := frm_0 [54, 55] [] A
  have hT : _ = fM_takesUp2 t k A := (fM_takesUp2.eq_1 t k A).symm
  refine ⟨Nat.le_of_ble_eq_true rfl, [(2, [(0, 2, 0), (1, 0, 0), (2, 0, 0), (3, 0, 0)], fun zs B nn => match zs with | [l1, l2, x] => iva IM B ∧ ivf JM B ∧ frm [54, 55] [] A B ∧ nn = (8 - x : Int).toNat ∧ (l1 = t) ∧ (l2 = k) ∧ (0 ≤ x) ∧ (x ≤ 8) ∧ (LQ B m) ∧ (∃ nf : Nat, nn < nf ∧ fM_takesUp2_L nf 2 [l1, l2, x] B = fM_takesUp2 t k A) | _ => False)], ?_, ?_⟩
  · refine ⟨⟨rfl, ?_⟩, trivial⟩
    · refine fun l1 l2 x B mm hB hz hI => ?_
      obtain ⟨i1, j1, f1, hm, c0, c1, c2, c3, c4, ⟨nf, hnf, hT⟩⟩ := hI
      obtain ⟨hz_l1, hz_l2, hz_x, _⟩ := hz
      obtain ⟨ng, rfl⟩ : ∃ k, nf = k + 1 := ⟨nf - 1, by omega⟩
      replace hT := (fM_takesUp2_c2.eq_1 (fM_takesUp2_L ng) l1 l2 x B).symm.trans ((fM_takesUp2_L2 ng l1 l2 x B).symm.trans hT)
      refine And.intro (fun h5 => ?_) (fun h5 => ?_)
      · replace hT := (if_neg (Int.not_lt.mpr h5)).symm.trans hT
        refine And.intro (by (first | (clear hm hnf; omega) | omega)) (fun v6 e7 => ?_)
        replace hT := qlc e7 hT
        refine fun (v8 : Int) (e9 : v8 = 0) => ?_
        replace hT := qlc e9 hT
        refine And.intro (by (first | (clear hm hnf; omega) | omega)) (fun A10 e11 => ?_)
        replace hT := qlc e11 hT
        have i12 := iva_st i1 e11 trivial
        have j13 := ivf_sa j1 e11 rfl
        have f14 := frm_s f1 e11 rfl
        have hjb := LQ_b (by assumption : LQ B m) (j := l1) (by (first | (clear hm hnf; omega) | omega)) (by (first | (clear hm hnf; omega) | omega))
        exact hK _ i12 j13 f14 _ (by (first | (clear hm hnf; omega) | omega)) (by (first | (clear hm hnf; omega) | omega)) (by (first | (clear hm hnf; omega) | omega)) (LQ_o (by assumption : LQ B m) (j := l1) (by (first | (clear hm hnf; omega) | omega)) (by (first | (clear hm hnf; omega) | omega)) (st_a e11 rfl) (st_u e11) (by (first | (clear hm hnf; omega) | omega)) (by (first | (clear hm hnf; omega) | omega))) (congrArg Prod.fst hT) (congrArg Prod.snd hT)
      · replace hT := (if_pos h5).symm.trans hT
        refine Exists.intro x (Exists.intro l2 (And.intro rfl (And.intro (And.intro i1 (And.intro j1 (And.intro (by (first | (clear hm hnf; omega) | omega)) (by (first | (clear hm hnf; omega) | omega))))) (fun r15 g17 g18 g16 => ?_))))
        replace hT := qlc g16 hT
        clear g16
        refine And.intro (fun h19 => ?_) (fun h19 => ?_)
        · replace hT := (if_neg h19).symm.trans hT
          refine And.intro (by (first | (clear hm hnf; omega) | omega)) (fun v20 e21 => ?_)
          replace hT := qlc e21 hT
          refine And.intro (by (first | (clear hm hnf; omega) | omega)) (fun v22 e23 => ?_)
          replace hT := qlc e23 hT
          have hjb := LQ_b (by assumption : LQ B m) (j := x) (by (first | (clear hm hnf; omega) | omega)) (by (first | (clear hm hnf; omega) | omega))
          have hja := jadd_id (x := v20) (y := v22) (by (first | (clear hm hnf; omega) | omega))
          refine fun v24 e25 => ?_
          replace hT := qlc e25 hT
          refine And.intro (by (first | (clear hm hnf; omega) | omega)) (fun A26 e27 => ?_)
          replace hT := qlc e27 hT
          have i28 := iva_st i1 e27 trivial
          have j29 := ivf_sa j1 e27 rfl
          have f30 := frm_s f1 e27 rfl
          refine fun (v31 : Int) (e32 : v31 = 0) => ?_
          replace hT := qlc e32 hT
          refine And.intro (by (first | (clear hm hnf; omega) | omega)) (fun A33 e34 => ?_)
          replace hT := qlc e34 hT
          have i35 := iva_st i28 e34 trivial
          have j36 := ivf_sa j29 e34 rfl
          have f37 := frm_s f30 e34 rfl
          refine fun v38 e39 => ?_
          replace hT := qlc e39 hT
          exact And.intro (by (first | (clear hm hnf; omega) | omega)) (Exists.intro (8 - v38 : Int).toNat (And.intro (by first | exact qtn hm (by (try clear hm hnf); omega) | omega) (And.intro i35 (And.intro j36 (And.intro f37 (And.intro rfl (And.intro (by (first | (clear hm hnf; omega) | omega)) (And.intro (by (first | (clear hm hnf; omega) | omega)) (And.intro (by (first | (clear hm hnf; omega) | omega)) (And.intro (by (first | (clear hm hnf; omega) | omega)) (And.intro (by first | assumption | exact LQ_t (j := x) (by assumption : LQ B m) (by (first | (clear hm hnf; omega) | omega)) (by (first | (clear hm hnf; omega) | omega)) (Eq.trans (st_u e34) (cu (st_a e27 rfl))) (Eq.trans (st_a e34 rfl) (st_u e27)) (by (first | (clear hm hnf; omega) | omega)) (by (first | (clear hm hnf; omega) | omega))) (Exists.intro ng (And.intro (by first | exact qtm hm hnf (by (try clear hm hnf); omega) | omega) hT)))))))))))))
        · replace hT := (if_pos h19).symm.trans hT
          refine fun v40 e41 => ?_
          replace hT := qlc e41 hT
          exact And.intro (by (first | (clear hm hnf; omega) | omega)) (Exists.intro (8 - v40 : Int).toNat (And.intro (by first | exact qtn hm (by (try clear hm hnf); omega) | omega) (And.intro i1 (And.intro j1 (And.intro f1 (And.intro rfl (And.intro (by (first | (clear hm hnf; omega) | omega)) (And.intro (by (first | (clear hm hnf; omega) | omega)) (And.intro (by (first | (clear hm hnf; omega) | omega)) (And.intro (by (first | (clear hm hnf; omega) | omega)) (And.intro (by first | assumption | exact LQ_t (j := x) (by assumption : LQ B m) (by (first | (clear hm hnf; omega) | omega)) (by (first | (clear hm hnf; omega) | omega)) rfl rfl (by (first | (clear hm hnf; omega) | omega)) (by (first | (clear hm hnf; omega) | omega))) (Exists.intro ng (And.intro (by first | exact qtm hm hnf (by (try clear hm hnf); omega) | omega) hT)))))))))))))
  · exact Exists.intro (8 - 0 : Int).toNat (And.intro i0 (And.intro j0 (And.intro f0 (And.intro rfl (And.intro (by (first | (clear hm hnf; omega) | omega)) (And.intro (by (first | (clear hm hnf; omega) | omega)) (And.intro (by (first | (clear hm hnf; omega) | omega)) (And.intro (by (first | (clear hm hnf; omega) | omega)) (And.intro (by first | assumption | exact LQ_t (j := x) (by assumption : LQ B m) (by (first | (clear hm hnf; omega) | omega)) (by (first | (clear hm hnf; omega) | omega)) hK hK (by (first | (clear hm hnf; omega) | omega)) (by (first | (clear hm hnf; omega) | omega))) (Exists.intro 100000 (And.intro (by (first | (clear hm hnf; omega) | omega)) hT)))))))))))
def fM_flies2_c2 (rec : Nat → List Int → qA → qA) (x : Int) (B : qA) : qA := (if x < 8 then qlet ((0 : Int)) fun v5 => qlet (qu B 56 x v5) fun A7 => qlet ((0 : Int)) fun v12 => qlet (qu A7 57 x v12) fun A14 => qlet (x + 1) fun v19 => rec 2 [v19] A14 else rec 19 [0] B)
def fM_flies2_c19 (rec : Nat → List Int → qA → qA) (x : Int) (B : qA) : qA := (if x < 8 then rec 24 [x, (-1)] B else rec 63 [0] B)
def fM_flies2_c63 (rec : Nat → List Int → qA → qA) (x : Int) (B : qA) : qA := (if x < 8 then qlet (B 56 x) fun v23 => qlet (qu B 54 x v23) fun A25 => qlet (A25 57 x) fun v30 => qlet (qu A25 55 x v30) fun A32 => qlet (x + 1) fun v37 => rec 63 [v37] A32 else B)
def fM_flies2_c24 (rec : Nat → List Int → qA → qA) (x b : Int) (B : qA) : qA := (if b < 2 then qlet (fM_moved x b B) fun r42 => qlet (B 56 r42) fun v46 => qlet (B 54 x) fun v48 => qlet (jadd v46 v48) fun v50 => qlet (qu B 56 r42 v50) fun A52 => qlet (A52 57 r42) fun v57 => qlet (A52 55 x) fun v59 => qlet (jadd v57 v59) fun v61 => qlet (qu A52 57 r42 v61) fun A63 => qlet (b + 1) fun v68 => rec 24 [x, v68] A63 else qlet (x + 1) fun v40 => rec 19 [v40] B)
def fM_flies2_L : Nat → Nat → List Int → qA → qA
  | 0 => fun _ _ B => B
  | nF + 1 => fun k zs B => bif Nat.beq k 2 then (match zs with | [x] => fM_flies2_c2 (fM_flies2_L nF) x B | _ => B) else bif Nat.beq k 19 then (match zs with | [x] => fM_flies2_c19 (fM_flies2_L nF) x B | _ => B) else bif Nat.beq k 63 then (match zs with | [x] => fM_flies2_c63 (fM_flies2_L nF) x B | _ => B) else bif Nat.beq k 24 then (match zs with | [x, b] => fM_flies2_c24 (fM_flies2_L nF) x b B | _ => B) else B
theorem fM_flies2_L2 (nF : Nat) (x : Int) (B : qA) : fM_flies2_L (nF + 1) 2 [x] B = fM_flies2_c2 (fM_flies2_L nF) x B := (congrFun (congrFun (congrFun (fM_flies2_L.eq_2 nF) 2) [x]) B).trans (qL1 rfl rfl)
theorem fM_flies2_L19 (nF : Nat) (x : Int) (B : qA) : fM_flies2_L (nF + 1) 19 [x] B = fM_flies2_c19 (fM_flies2_L nF) x B := (congrFun (congrFun (congrFun (fM_flies2_L.eq_2 nF) 19) [x]) B).trans (qL0 rfl (qL1 rfl rfl))
theorem fM_flies2_L63 (nF : Nat) (x : Int) (B : qA) : fM_flies2_L (nF + 1) 63 [x] B = fM_flies2_c63 (fM_flies2_L nF) x B := (congrFun (congrFun (congrFun (fM_flies2_L.eq_2 nF) 63) [x]) B).trans (qL0 rfl (qL0 rfl (qL1 rfl rfl)))
theorem fM_flies2_L24 (nF : Nat) (x b : Int) (B : qA) : fM_flies2_L (nF + 1) 24 [x, b] B = fM_flies2_c24 (fM_flies2_L nF) x b B := (congrFun (congrFun (congrFun (fM_flies2_L.eq_2 nF) 24) [x, b]) B).trans (qL0 rfl (qL0 rfl (qL0 rfl (qL1 rfl rfl))))
def fM_flies2 (A : qA) : qA := (fM_flies2_L 100000) 2 [0] A
def sM_flies2 : qS := fun as A K => ∃ m : Int, as = [rf 0] ∧ (iva IM A ∧ ivf JM A ∧ (LQ A m) ∧ (m ≤ 9000000) ∧ (0 ≤ m)) ∧ (∀ A' : qA, iva IM A' → ivf JM A' → frm [54, 55, 56, 57] [] A A' → (LQ A' (3 * m)) → (A' = fM_flies2 A) → K none A')
theorem okM_flies2 : okM LM 2 227 sM_flies2 := by
  refine qmeth [] false [(226, sM_moved)] 91 rfl ⟨okM_moved.le (by decide), trivial⟩ ?_
  rintro _ A K hA has ⟨m, rfl, ⟨i0, j0, p1, p2, p3⟩, hK⟩
  have f0 := frm_0 [54, 55, 56, 57] [] A
  have hT : _ = fM_flies2 A := (fM_flies2.eq_1 A).symm
  refine ⟨Nat.le_of_ble_eq_true rfl, [(2, [(0, 2, 0), (1, 0, 0)], fun zs B nn => match zs with | [x] => iva IM B ∧ ivf JM B ∧ frm [54, 55, 56, 57] [] A B ∧ nn = (3000 - x : Int).toNat ∧ (0 ≤ x) ∧ (x ≤ 8) ∧ (B 54 = A 54) ∧ (B 55 = A 55) ∧ (∀ i, 0 ≤ i → i < x → B 56 i = 0 ∧ B 57 i = 0) ∧ (∃ nf : Nat, nn < nf ∧ fM_flies2_L nf 2 [x] B = fM_flies2 A) | _ => False), (19, [(0, 2, 0), (1, 0, 0)], fun zs B nn => match zs with | [x] => iva IM B ∧ ivf JM B ∧ frm [54, 55, 56, 57] [] A B ∧ nn = (2000 - x * 10 : Int).toNat ∧ (0 ≤ x) ∧ (x ≤ 8) ∧ (B 54 = A 54) ∧ (B 55 = A 55) ∧ (LF A B x 0) ∧ (∃ nf : Nat, nn < nf ∧ fM_flies2_L nf 19 [x] B = fM_flies2 A) | _ => False), (63, [(0, 2, 0), (1, 0, 0)], fun zs B nn => match zs with | [x] => iva IM B ∧ ivf JM B ∧ frm [54, 55, 56, 57] [] A B ∧ nn = (8 - x : Int).toNat ∧ (0 ≤ x) ∧ (x ≤ 8) ∧ (FE B (3 * m)) ∧ (∀ i, 0 ≤ i → i < x → B 54 i = B 56 i ∧ B 55 i = B 57 i) ∧ (∃ nf : Nat, nn < nf ∧ fM_flies2_L nf 63 [x] B = fM_flies2 A) | _ => False), (24, [(0, 2, 0), (1, 0, 0), (2, 0, 0)], fun zs B nn => match zs with | [x, b] => iva IM B ∧ ivf JM B ∧ frm [54, 55, 56, 57] [] A B ∧ nn = (2000 - x * 10 - 3 - b : Int).toNat ∧ (0 ≤ x) ∧ (x ≤ 7) ∧ ((-1) ≤ b) ∧ (b ≤ 2) ∧ (B 54 = A 54) ∧ (B 55 = A 55) ∧ (LG A B x b) ∧ (∃ nf : Nat, nn < nf ∧ fM_flies2_L nf 24 [x, b] B = fM_flies2 A) | _ => False)], ?_, ?_⟩
  · refine ⟨⟨rfl, ?_⟩, ⟨rfl, ?_⟩, ⟨rfl, ?_⟩, ⟨rfl, ?_⟩, trivial⟩
    · refine fun x B mm hB hz hI => ?_
      obtain ⟨i1, j1, f1, hm, c0, c1, c2, c3, c4, ⟨nf, hnf, hT⟩⟩ := hI
      obtain ⟨hz_x, _⟩ := hz
      obtain ⟨ng, rfl⟩ : ∃ k, nf = k + 1 := ⟨nf - 1, by omega⟩
      replace hT := (fM_flies2_c2.eq_1 (fM_flies2_L ng) x B).symm.trans ((fM_flies2_L2 ng x B).symm.trans hT)
      refine And.intro (fun h4 => ?_) (fun h4 => ?_)
      · replace hT := (if_neg (Int.not_lt.mpr h4)).symm.trans hT
        exact Exists.intro (2000 - 0 * 10 : Int).toNat (And.intro (by first | exact qtn hm (by (try clear hm hnf); omega) | omega) (And.intro i1 (And.intro j1 (And.intro f1 (And.intro rfl (And.intro (by (first | (clear hm hnf; omega) | omega)) (And.intro (by (first | (clear hm hnf; omega) | omega)) (And.intro c2 (And.intro c3 (And.intro (by first | exact LF_0 (fun i a b => (c4 i a (by (first | (clear hm hnf; omega) | omega))).1) (fun i a b => (c4 i a (by (first | (clear hm hnf; omega) | omega))).2) | exact LG_e (by assumption : LG A B x b) (by (first | (clear hm hnf; omega) | omega)) (by (first | (clear hm hnf; omega) | omega)) (by (first | (clear hm hnf; omega) | omega))) (Exists.intro ng (And.intro (by first | exact qtm hm hnf (by (try clear hm hnf); omega) | omega) hT))))))))))))
      · replace hT := (if_pos h4).symm.trans hT
        refine fun (v5 : Int) (e6 : v5 = 0) => ?_
        replace hT := qlc e6 hT
        refine And.intro (by (first | (clear hm hnf; omega) | omega)) (fun A7 e8 => ?_)
        replace hT := qlc e8 hT
        have i9 := iva_st i1 e8 trivial
        have j10 := ivf_sa j1 e8 rfl
        have f11 := frm_s f1 e8 rfl
        refine fun (v12 : Int) (e13 : v12 = 0) => ?_
        replace hT := qlc e13 hT
        refine And.intro (by (first | (clear hm hnf; omega) | omega)) (fun A14 e15 => ?_)
        replace hT := qlc e15 hT
        have i16 := iva_st i9 e15 trivial
        have j17 := ivf_sa j10 e15 rfl
        have f18 := frm_s f11 e15 rfl
        refine fun v19 e20 => ?_
        replace hT := qlc e20 hT
        exact And.intro (by (first | (clear hm hnf; omega) | omega)) (Exists.intro (3000 - v19 : Int).toNat (And.intro (by first | exact qtn hm (by (try clear hm hnf); omega) | omega) (And.intro i16 (And.intro j17 (And.intro f18 (And.intro rfl (And.intro (by (first | (clear hm hnf; omega) | omega)) (And.intro (by (first | (clear hm hnf; omega) | omega)) (And.intro (Eq.trans (Eq.trans (st_a e15 rfl) (st_a e8 rfl)) c2) (And.intro (Eq.trans (Eq.trans (st_a e15 rfl) (st_a e8 rfl)) c3) (And.intro (by first | (intro i h0 h1; omega) | (intro i h0 h1; by_cases hi : i = x; (rw [hi]; exact ⟨(up_e (Eq.trans (st_a e15 rfl) (st_u e8))).trans (by (first | (clear hm hnf; omega) | omega)), (up_e (Eq.trans (st_u e15) (cu (st_a e8 rfl)))).trans (by (first | (clear hm hnf; omega) | omega))⟩); (have q3 := c4 i h0 (by (first | (clear hm hnf; omega) | omega)); exact ⟨(up_n (Eq.trans (st_a e15 rfl) (st_u e8)) hi).trans q3.1, (up_n (Eq.trans (st_u e15) (cu (st_a e8 rfl))) hi).trans q3.2⟩))) (Exists.intro ng (And.intro (by first | exact qtm hm hnf (by (try clear hm hnf); omega) | omega) hT)))))))))))))
    · refine fun x B mm hB hz hI => ?_
      obtain ⟨i1, j1, f1, hm, c0, c1, c2, c3, c4, ⟨nf, hnf, hT⟩⟩ := hI
      obtain ⟨hz_x, _⟩ := hz
      obtain ⟨ng, rfl⟩ : ∃ k, nf = k + 1 := ⟨nf - 1, by omega⟩
      replace hT := (fM_flies2_c19.eq_1 (fM_flies2_L ng) x B).symm.trans ((fM_flies2_L19 ng x B).symm.trans hT)
      refine And.intro (fun h21 => ?_) (fun h21 => ?_)
      · replace hT := (if_neg (Int.not_lt.mpr h21)).symm.trans hT
        exact Exists.intro (8 - 0 : Int).toNat (And.intro (by first | exact qtn hm (by (try clear hm hnf); omega) | omega) (And.intro i1 (And.intro j1 (And.intro f1 (And.intro rfl (And.intro (by (first | (clear hm hnf; omega) | omega)) (And.intro (by (first | (clear hm hnf; omega) | omega)) (And.intro (by first | exact FE_0 (by assumption) (by (first | (clear hm hnf; omega) | omega)) (by assumption) | exact FE_k (by assumption : FE B (3 * m)) rfl rfl) (And.intro (by first | (intro i h0 h1; omega) | (intro i h0 h1; have q1 := congrFun (show B 56 = B 56 from rfl) i; have q2 := congrFun (show B 57 = B 57 from rfl) i; by_cases hi : i = x; (rw [hi] at q1 q2 ⊢; have u1 := up_e rfl; have u2 := up_e rfl; exact ⟨by (first | (clear hm hnf; omega) | omega), by (first | (clear hm hnf; omega) | omega)⟩); (have u1 := up_n rfl hi; have u2 := up_n rfl hi; have q3 := c3 i h0 (by (first | (clear hm hnf; omega) | omega)); exact ⟨by (first | (clear hm hnf; omega) | omega), by (first | (clear hm hnf; omega) | omega)⟩))) (Exists.intro ng (And.intro (by first | exact qtm hm hnf (by (try clear hm hnf); omega) | omega) hT)))))))))))
      · replace hT := (if_pos h21).symm.trans hT
        exact Exists.intro (2000 - x * 10 - 3 - (-1) : Int).toNat (And.intro (by first | exact qtn hm (by (try clear hm hnf); omega) | omega) (And.intro i1 (And.intro j1 (And.intro f1 (And.intro rfl (And.intro (by (first | (clear hm hnf; omega) | omega)) (And.intro (by (first | (clear hm hnf; omega) | omega)) (And.intro (by (first | (clear hm hnf; omega) | omega)) (And.intro (by (first | (clear hm hnf; omega) | omega)) (And.intro c2 (And.intro c3 (And.intro (by first | exact LG_0 (by assumption) | exact LG_1 (by assumption : LG A B x b) (by (first | (clear hm hnf; omega) | omega)) (by (first | (clear hm hnf; omega) | omega)) rfl rfl (by (first | (clear hm hnf; omega) | omega)) (by (first | (clear hm hnf; omega) | omega)) (by (first | (clear hm hnf; omega) | omega)) (by (first | (clear hm hnf; omega) | omega)) (by (first | (clear hm hnf; omega) | omega)) (by (first | (clear hm hnf; omega) | omega)) (by (first | (clear hm hnf; omega) | omega))) (Exists.intro ng (And.intro (by first | exact qtm hm hnf (by (try clear hm hnf); omega) | omega) hT))))))))))))))
    · refine fun x B mm hB hz hI => ?_
      obtain ⟨i1, j1, f1, hm, c0, c1, c2, c3, ⟨nf, hnf, hT⟩⟩ := hI
      obtain ⟨hz_x, _⟩ := hz
      obtain ⟨ng, rfl⟩ : ∃ k, nf = k + 1 := ⟨nf - 1, by omega⟩
      replace hT := (fM_flies2_c63.eq_1 (fM_flies2_L ng) x B).symm.trans ((fM_flies2_L63 ng x B).symm.trans hT)
      refine And.intro (fun h22 => ?_) (fun h22 => ?_)
      · replace hT := (if_neg (Int.not_lt.mpr h22)).symm.trans hT
        exact hK _ i1 j1 f1 (LQ_f (by assumption) (fun i a b => c3 i a (by (first | (clear hm hnf; omega) | omega)))) hT
      · replace hT := (if_pos h22).symm.trans hT
        refine And.intro (by (first | (clear hm hnf; omega) | omega)) (fun v23 e24 => ?_)
        replace hT := qlc e24 hT
        refine And.intro (by (first | (clear hm hnf; omega) | omega)) (fun A25 e26 => ?_)
        replace hT := qlc e26 hT
        have i27 := iva_st i1 e26 trivial
        have j28 := ivf_sa j1 e26 rfl
        have f29 := frm_s f1 e26 rfl
        have h57c := congrFun (show A25 57 = B 57 from (st_a e26 rfl)) x
        refine And.intro (by (first | (clear hm hnf; omega) | omega)) (fun v30 e31 => ?_)
        replace hT := qlc e31 hT
        refine And.intro (by (first | (clear hm hnf; omega) | omega)) (fun A32 e33 => ?_)
        replace hT := qlc e33 hT
        have i34 := iva_st i27 e33 trivial
        have j35 := ivf_sa j28 e33 rfl
        have f36 := frm_s f29 e33 rfl
        refine fun v37 e38 => ?_
        replace hT := qlc e38 hT
        exact And.intro (by (first | (clear hm hnf; omega) | omega)) (Exists.intro (8 - v37 : Int).toNat (And.intro (by first | exact qtn hm (by (try clear hm hnf); omega) | omega) (And.intro i34 (And.intro j35 (And.intro f36 (And.intro rfl (And.intro (by (first | (clear hm hnf; omega) | omega)) (And.intro (by (first | (clear hm hnf; omega) | omega)) (And.intro (by first | exact FE_0 (by assumption) (by (first | (clear hm hnf; omega) | omega)) (by assumption) | exact FE_k (by assumption : FE B (3 * m)) (Eq.trans (st_a e33 rfl) (st_a e26 rfl)) (Eq.trans (st_a e33 rfl) (st_a e26 rfl))) (And.intro (by first | (intro i h0 h1; omega) | (intro i h0 h1; have q1 := congrFun (show A32 56 = B 56 from (Eq.trans (st_a e33 rfl) (st_a e26 rfl))) i; have q2 := congrFun (show A32 57 = B 57 from (Eq.trans (st_a e33 rfl) (st_a e26 rfl))) i; by_cases hi : i = x; (rw [hi] at q1 q2 ⊢; have u1 := up_e (Eq.trans (st_a e33 rfl) (st_u e26)); have u2 := up_e (Eq.trans (st_u e33) (cu (st_a e26 rfl))); exact ⟨by (first | (clear hm hnf; omega) | omega), by (first | (clear hm hnf; omega) | omega)⟩); (have u1 := up_n (Eq.trans (st_a e33 rfl) (st_u e26)) hi; have u2 := up_n (Eq.trans (st_u e33) (cu (st_a e26 rfl))) hi; have q3 := c3 i h0 (by (first | (clear hm hnf; omega) | omega)); exact ⟨by (first | (clear hm hnf; omega) | omega), by (first | (clear hm hnf; omega) | omega)⟩))) (Exists.intro ng (And.intro (by first | exact qtm hm hnf (by (try clear hm hnf); omega) | omega) hT))))))))))))
    · refine fun x b B mm hB hz hI => ?_
      obtain ⟨i1, j1, f1, hm, c0, c1, c2, c3, c4, c5, c6, ⟨nf, hnf, hT⟩⟩ := hI
      obtain ⟨hz_x, hz_b, _⟩ := hz
      obtain ⟨ng, rfl⟩ : ∃ k, nf = k + 1 := ⟨nf - 1, by omega⟩
      replace hT := (fM_flies2_c24.eq_1 (fM_flies2_L ng) x b B).symm.trans ((fM_flies2_L24 ng x b B).symm.trans hT)
      refine And.intro (fun h39 => ?_) (fun h39 => ?_)
      · replace hT := (if_neg (Int.not_lt.mpr h39)).symm.trans hT
        refine fun v40 e41 => ?_
        replace hT := qlc e41 hT
        exact And.intro (by (first | (clear hm hnf; omega) | omega)) (Exists.intro (2000 - v40 * 10 : Int).toNat (And.intro (by first | exact qtn hm (by (try clear hm hnf); omega) | omega) (And.intro i1 (And.intro j1 (And.intro f1 (And.intro rfl (And.intro (by (first | (clear hm hnf; omega) | omega)) (And.intro (by (first | (clear hm hnf; omega) | omega)) (And.intro c4 (And.intro c5 (And.intro (by first | exact LF_0 (fun i a b => (c4 i a (by (first | (clear hm hnf; omega) | omega))).1) (fun i a b => (c4 i a (by (first | (clear hm hnf; omega) | omega))).2) | exact LG_e (by assumption : LG A B x b) (by (first | (clear hm hnf; omega) | omega)) (by (first | (clear hm hnf; omega) | omega)) (by (first | (clear hm hnf; omega) | omega))) (Exists.intro ng (And.intro (by first | exact qtm hm hnf (by (try clear hm hnf); omega) | omega) hT)))))))))))))
      · replace hT := (if_pos h39).symm.trans hT
        refine Exists.intro x (Exists.intro b (And.intro rfl (And.intro (And.intro (by (first | (clear hm hnf; omega) | omega)) (And.intro (by (first | (clear hm hnf; omega) | omega)) (And.intro (by (first | (clear hm hnf; omega) | omega)) (by (first | (clear hm hnf; omega) | omega))))) (fun r42 g44 g45 g43 => ?_))))
        replace hT := qlc g43 hT
        clear g43
        have hgb := LG_b (y := r42) (by assumption : LG A B x b) (by assumption : LQ A m) (by (first | (clear hm hnf; omega) | omega)) (by (first | (clear hm hnf; omega) | omega)) (by (first | (clear hm hnf; omega) | omega)) (by (first | (clear hm hnf; omega) | omega)) (by (first | (clear hm hnf; omega) | omega)) (by (first | (clear hm hnf; omega) | omega))
        have h54 : B 54 x = A 54 x := congrFun c4 x
        have h55 : B 55 x = A 55 x := congrFun c5 x
        refine And.intro (by (first | (clear hm hnf; omega) | omega)) (fun v46 e47 => ?_)
        replace hT := qlc e47 hT
        refine And.intro (by (first | (clear hm hnf; omega) | omega)) (fun v48 e49 => ?_)
        replace hT := qlc e49 hT
        have hj1 := jadd_id (x := v46) (y := v48) (by (first | (clear hm hnf; omega) | omega))
        refine fun v50 e51 => ?_
        replace hT := qlc e51 hT
        refine And.intro (by (first | (clear hm hnf; omega) | omega)) (fun A52 e53 => ?_)
        replace hT := qlc e53 hT
        have i54 := iva_st i1 e53 trivial
        have j55 := ivf_sa j1 e53 rfl
        have f56 := frm_s f1 e53 rfl
        have h57b := congrFun (show A52 57 = B 57 from (st_a e53 rfl)) r42
        have h55b := congrFun (show A52 55 = B 55 from (st_a e53 rfl)) x
        refine And.intro (by (first | (clear hm hnf; omega) | omega)) (fun v57 e58 => ?_)
        replace hT := qlc e58 hT
        refine And.intro (by (first | (clear hm hnf; omega) | omega)) (fun v59 e60 => ?_)
        replace hT := qlc e60 hT
        have hj2 := jadd_id (x := v57) (y := v59) (by (first | (clear hm hnf; omega) | omega))
        refine fun v61 e62 => ?_
        replace hT := qlc e62 hT
        refine And.intro (by (first | (clear hm hnf; omega) | omega)) (fun A63 e64 => ?_)
        replace hT := qlc e64 hT
        have i65 := iva_st i54 e64 trivial
        have j66 := ivf_sa j55 e64 rfl
        have f67 := frm_s f56 e64 rfl
        refine fun v68 e69 => ?_
        replace hT := qlc e69 hT
        exact And.intro (by (first | (clear hm hnf; omega) | omega)) (Exists.intro (2000 - x * 10 - 3 - v68 : Int).toNat (And.intro (by first | exact qtn hm (by (try clear hm hnf); omega) | omega) (And.intro i65 (And.intro j66 (And.intro f67 (And.intro rfl (And.intro (by (first | (clear hm hnf; omega) | omega)) (And.intro (by (first | (clear hm hnf; omega) | omega)) (And.intro (by (first | (clear hm hnf; omega) | omega)) (And.intro (by (first | (clear hm hnf; omega) | omega)) (And.intro (Eq.trans (Eq.trans (st_a e64 rfl) (st_a e53 rfl)) c4) (And.intro (Eq.trans (Eq.trans (st_a e64 rfl) (st_a e53 rfl)) c5) (And.intro (by first | exact LG_0 (by assumption) | exact LG_1 (by assumption : LG A B x b) (by (first | (clear hm hnf; omega) | omega)) (by (first | (clear hm hnf; omega) | omega)) (Eq.trans (st_a e64 rfl) (st_u e53)) (Eq.trans (st_u e64) (cu (st_a e53 rfl))) (by (first | (clear hm hnf; omega) | omega)) (by (first | (clear hm hnf; omega) | omega)) (by (first | (clear hm hnf; omega) | omega)) (by (first | (clear hm hnf; omega) | omega)) (by (first | (clear hm hnf; omega) | omega)) (by (first | (clear hm hnf; omega) | omega)) (by (first | (clear hm hnf; omega) | omega))) (Exists.intro ng (And.intro (by first | exact qtm hm hnf (by (try clear hm hnf); omega) | omega) hT)))))))))))))))
  · exact Exists.intro (3000 - 0 : Int).toNat (And.intro i0 (And.intro j0 (And.intro f0 (And.intro rfl (And.intro (by (first | (clear hm hnf; omega) | omega)) (And.intro (by (first | (clear hm hnf; omega) | omega)) (And.intro rfl (And.intro rfl (And.intro (by first | (intro i h0 h1; omega) | (intro i h0 h1; by_cases hi : i = x; (rw [hi]; exact ⟨(up_e hK).trans (by (first | (clear hm hnf; omega) | omega)), (up_e hK).trans (by (first | (clear hm hnf; omega) | omega))⟩); (have q3 := hK i h0 (by (first | (clear hm hnf; omega) | omega)); exact ⟨(up_n hK hi).trans q3.1, (up_n hK hi).trans q3.2⟩))) (Exists.intro 100000 (And.intro (by (first | (clear hm hnf; omega) | omega)) hT)))))))))))
def fM_pollen_c29 (rec : Nat → List Int → qA → Int × qA) (l1 l2 l3 l4 l5 x : Int) (B : qA) : Int × qA := (if x < 8 then (if x = l1 then qlet ((1 : Int)) fun v48 => qlet (qu B 54 x v48) fun A50 => qlet ((0 : Int)) fun v55 => qlet (qu A50 55 x v55) fun A57 => qlet (x + 1) fun v62 => rec 29 [l1, l2, l3, l4, l5, v62] A57 else qlet ((0 : Int)) fun v32 => qlet (qu B 54 x v32) fun A34 => qlet ((0 : Int)) fun v39 => qlet (qu A34 55 x v39) fun A41 => qlet (x + 1) fun v46 => rec 29 [l1, l2, l3, l4, l5, v46] A41) else qlp (fM_takesUp2 l2 l3 B) fun r21 A17 => qlet ((1 : Int)) fun v29 => rec 58 [l2, l3, l4, l5, r21, v29, 0] A17)
def fM_pollen_c58 (rec : Nat → List Int → qA → Int × qA) (l2 l3 l4 l5 u y n : Int) (B : qA) : Int × qA := (if n < l4 then qlet (fM_flies2 B) fun A74 => qlet (jmul (qnL 3) y) fun v81 => qlet (jmul (qnL 3) u) fun v83 => qlp (fM_takesUp2 l2 l3 A74) fun r89 A85 => qlet (jadd v83 r89) fun v97 => qlet (n + 1) fun v99 => rec 58 [l2, l3, l4, l5, v97, v81, v99] A85 else qlet (fM_gcd u y B) fun r65 => (if l5 = 0 then qlet (wL (Int.tdiv u r65)) fun v72 => (v72, B) else qlet (wL (Int.tdiv y r65)) fun v70 => (v70, B)))
def fM_pollen_L : Nat → Nat → List Int → qA → Int × qA
  | 0 => fun _ _ B => (0, B)
  | nF + 1 => fun k zs B => bif Nat.beq k 29 then (match zs with | [l1, l2, l3, l4, l5, x] => fM_pollen_c29 (fM_pollen_L nF) l1 l2 l3 l4 l5 x B | _ => (0, B)) else bif Nat.beq k 58 then (match zs with | [l2, l3, l4, l5, u, y, n] => fM_pollen_c58 (fM_pollen_L nF) l2 l3 l4 l5 u y n B | _ => (0, B)) else (0, B)
theorem fM_pollen_L29 (nF : Nat) (l1 l2 l3 l4 l5 x : Int) (B : qA) : fM_pollen_L (nF + 1) 29 [l1, l2, l3, l4, l5, x] B = fM_pollen_c29 (fM_pollen_L nF) l1 l2 l3 l4 l5 x B := (congrFun (congrFun (congrFun (fM_pollen_L.eq_2 nF) 29) [l1, l2, l3, l4, l5, x]) B).trans (qL1 rfl rfl)
theorem fM_pollen_L58 (nF : Nat) (l2 l3 l4 l5 u y n : Int) (B : qA) : fM_pollen_L (nF + 1) 58 [l2, l3, l4, l5, u, y, n] B = fM_pollen_c58 (fM_pollen_L nF) l2 l3 l4 l5 u y n B := (congrFun (congrFun (congrFun (fM_pollen_L.eq_2 nF) 58) [l2, l3, l4, l5, u, y, n]) B).trans (qL0 rfl (qL1 rfl rfl))
def fM_pollen (f t k s w : Int) (A : qA) : Int × qA := (if 0 ≤ f ∧ f ≤ 7 then (if 0 ≤ t ∧ t ≤ 7 then (if 0 ≤ k ∧ k ≤ 5 then (if 1 ≤ s ∧ s ≤ 12 then (if 0 ≤ w ∧ w ≤ 1 then (fM_pollen_L 100000) 29 [f, t, k, s, w, 0] A else ((qnL 18446744073709551615), A)) else ((qnL 18446744073709551615), A)) else ((qnL 18446744073709551615), A)) else ((qnL 18446744073709551615), A)) else ((qnL 18446744073709551615), A))
def sM_pollen : qS := fun as A K => ∃ f t k s w : Int, as = [rf 0, ni f, ni t, ni k, ni s, ni w] ∧ (iva IM A ∧ ivf JM A) ∧ (∀ A' : qA, iva IM A' → ivf JM A' → frm [54, 55, 56, 57] [] A A' → ∀ r : Int, rngL r → (r = (fM_pollen f t k s w A).1) → (A' = (fM_pollen f t k s w A).2) → K (some (nl r)) A')
theorem okM_pollen : okM LM 3 229 sM_pollen := by
  refine qmeth [] false [(145, sM_in), (225, sM_takesUp2), (228, sM_gcd), (227, sM_flies2)] 98 rfl ⟨okM_in.le (by decide), ⟨okM_takesUp2.le (by decide), ⟨okM_gcd.le (by decide), ⟨okM_flies2.le (by decide), trivial⟩⟩⟩⟩ ?_
  rintro _ A K hA has ⟨f, t, k, s, w, rfl, ⟨i0, j0⟩, hK⟩
  have rg_f : rng f := has (ni f) (by simp)
  have rg_t : rng t := has (ni t) (by simp)
  have rg_k : rng k := has (ni k) (by simp)
  have rg_s : rng s := has (ni s) (by simp)
  have rg_w : rng w := has (ni w) (by simp)
  have f0 := frm_0 [54, 55, 56, 57] [] A
  have hT : _ = fM_pollen f t k s w A := (fM_pollen.eq_1 f t k s w A).symm
  refine ⟨Nat.le_of_ble_eq_true rfl, [(29, [(0, 2, 0), (1, 0, 0), (2, 0, 0), (3, 0, 0), (4, 0, 0), (5, 0, 0), (6, 0, 0)], fun zs B nn => match zs with | [l1, l2, l3, l4, l5, x] => iva IM B ∧ ivf JM B ∧ frm [54, 55, 56, 57] [] A B ∧ nn = (500 - x : Int).toNat ∧ (l1 = f) ∧ (l2 = t) ∧ (l3 = k) ∧ (l4 = s) ∧ (l5 = w) ∧ (0 ≤ x) ∧ (x ≤ 8) ∧ (0 ≤ f) ∧ (f ≤ 7) ∧ (0 ≤ t) ∧ (t ≤ 7) ∧ (0 ≤ k) ∧ (k ≤ 5) ∧ (1 ≤ s) ∧ (s ≤ 12) ∧ (∀ i, 0 ≤ i → i < x → B 54 i = (if i = f then 1 else 0) ∧ B 55 i = 0) ∧ (∃ nf : Nat, nn < nf ∧ fM_pollen_L nf 29 [l1, l2, l3, l4, l5, x] B = fM_pollen f t k s w A) | _ => False), (58, [(0, 2, 0), (2, 0, 0), (3, 0, 0), (4, 0, 0), (5, 0, 0), (6, 1, 0), (8, 1, 0), (10, 0, 0)], fun zs B nn => match zs with | [l2, l3, l4, l5, u, y, n] => iva IM B ∧ ivf JM B ∧ frm [54, 55, 56, 57] [] A B ∧ nn = (12 - n : Int).toNat ∧ (l2 = t) ∧ (l3 = k) ∧ (l4 = s) ∧ (l5 = w) ∧ (0 ≤ f) ∧ (f ≤ 7) ∧ (0 ≤ t) ∧ (t ≤ 7) ∧ (0 ≤ k) ∧ (k ≤ 5) ∧ (1 ≤ s) ∧ (s ≤ 12) ∧ (0 ≤ n) ∧ (n ≤ 12) ∧ (0 ≤ u) ∧ (u ≤ y) ∧ (1 ≤ y) ∧ (y ≤ 531441) ∧ (LQ B (y - u)) ∧ (n = 0 → y = 1) ∧ (n = 1 → y = 3) ∧ (n = 2 → y = 9) ∧ (n = 3 → y = 27) ∧ (n = 4 → y = 81) ∧ (n = 5 → y = 243) ∧ (n = 6 → y = 729) ∧ (n = 7 → y = 2187) ∧ (n = 8 → y = 6561) ∧ (n = 9 → y = 19683) ∧ (n = 10 → y = 59049) ∧ (n = 11 → y = 177147) ∧ (n = 12 → y = 531441) ∧ (∃ nf : Nat, nn < nf ∧ fM_pollen_L nf 58 [l2, l3, l4, l5, u, y, n] B = fM_pollen f t k s w A) | _ => False)], ?_, ?_⟩
  · refine ⟨⟨rfl, ?_⟩, ⟨rfl, ?_⟩, trivial⟩
    · refine fun l1 l2 l3 l4 l5 x B mm hB hz hI => ?_
      obtain ⟨i1, j1, f1, hm, c0, c1, c2, c3, c4, c5, c6, c7, c8, c9, c10, c11, c12, c13, c14, c15, ⟨nf, hnf, hT⟩⟩ := hI
      obtain ⟨hz_l1, hz_l2, hz_l3, hz_l4, hz_l5, hz_x, _⟩ := hz
      obtain ⟨ng, rfl⟩ : ∃ k, nf = k + 1 := ⟨nf - 1, by omega⟩
      replace hT := (fM_pollen_c29.eq_1 (fM_pollen_L ng) l1 l2 l3 l4 l5 x B).symm.trans ((fM_pollen_L29 ng l1 l2 l3 l4 l5 x B).symm.trans hT)
      refine And.intro (fun h16 => ?_) (fun h16 => ?_)
      · replace hT := (if_neg (Int.not_lt.mpr h16)).symm.trans hT
        have lp1 : LQ B 1 := LQ_1 (f := f) (by (first | (clear hm hnf; omega) | omega)) (by (first | (clear hm hnf; omega) | omega)) (fun i a b => c15 i a (by (first | (clear hm hnf; omega) | omega)))
        refine Exists.intro l2 (Exists.intro l3 (Exists.intro 1 (And.intro rfl (And.intro (And.intro i1 (And.intro j1 (And.intro (by (first | (clear hm hnf; omega) | omega)) (And.intro (by (first | (clear hm hnf; omega) | omega)) (And.intro (by first | assumption | omega | simp_all) (by first | assumption | omega | simp_all)))))) (fun A17 i18 j19 f20 r21 g27 g22 g23 g24 g25 g26 => ?_)))))
        replace hT := qlpc g25 g26 hT
        clear g25 g26
        have f28 := frm_c f1 f20 rfl
        refine fun (v29 : Int) (e30 : v29 = 1) => ?_
        replace hT := qlc e30 hT
        exact Exists.intro (12 - 0 : Int).toNat (And.intro (by first | exact qtn hm (by (try clear hm hnf); omega) | omega) (And.intro i18 (And.intro j19 (And.intro f28 (And.intro rfl (And.intro (by (first | (clear hm hnf; omega) | omega)) (And.intro (by (first | (clear hm hnf; omega) | omega)) (And.intro (by (first | (clear hm hnf; omega) | omega)) (And.intro (by (first | (clear hm hnf; omega) | omega)) (And.intro (by (first | (clear hm hnf; omega) | omega)) (And.intro (by (first | (clear hm hnf; omega) | omega)) (And.intro (by (first | (clear hm hnf; omega) | omega)) (And.intro (by (first | (clear hm hnf; omega) | omega)) (And.intro (by (first | (clear hm hnf; omega) | omega)) (And.intro (by (first | (clear hm hnf; omega) | omega)) (And.intro (by (first | (clear hm hnf; omega) | omega)) (And.intro (by (first | (clear hm hnf; omega) | omega)) (And.intro (by (first | (clear hm hnf; omega) | omega)) (And.intro (by (first | (clear hm hnf; omega) | omega)) (And.intro (by (first | (clear hm hnf; omega) | omega)) (And.intro (by (first | (clear hm hnf; omega) | omega)) (And.intro (by (first | (clear hm hnf; omega) | omega)) (And.intro (by (first | (clear hm hnf; omega) | omega)) (And.intro (by exact LQ_k g24 rfl rfl (by (first | (clear hm hnf; omega) | omega))) (And.intro (by (first | (clear hm hnf; omega) | omega)) (And.intro (by (first | (clear hm hnf; omega) | omega)) (And.intro (by (first | (clear hm hnf; omega) | omega)) (And.intro (by (first | (clear hm hnf; omega) | omega)) (And.intro (by (first | (clear hm hnf; omega) | omega)) (And.intro (by (first | (clear hm hnf; omega) | omega)) (And.intro (by (first | (clear hm hnf; omega) | omega)) (And.intro (by (first | (clear hm hnf; omega) | omega)) (And.intro (by (first | (clear hm hnf; omega) | omega)) (And.intro (by (first | (clear hm hnf; omega) | omega)) (And.intro (by (first | (clear hm hnf; omega) | omega)) (And.intro (by (first | (clear hm hnf; omega) | omega)) (And.intro (by (first | (clear hm hnf; omega) | omega)) (Exists.intro ng (And.intro (by first | exact qtm hm hnf (by (try clear hm hnf); omega) | omega) hT)))))))))))))))))))))))))))))))))))))))
      · replace hT := (if_pos h16).symm.trans hT
        refine And.intro (fun h31 => ?_) (fun h31 => ?_)
        · replace hT := (if_neg h31).symm.trans hT
          refine fun (v32 : Int) (e33 : v32 = 0) => ?_
          replace hT := qlc e33 hT
          refine And.intro (by (first | (clear hm hnf; omega) | omega)) (fun A34 e35 => ?_)
          replace hT := qlc e35 hT
          have i36 := iva_st i1 e35 trivial
          have j37 := ivf_sa j1 e35 rfl
          have f38 := frm_s f1 e35 rfl
          refine fun (v39 : Int) (e40 : v39 = 0) => ?_
          replace hT := qlc e40 hT
          refine And.intro (by (first | (clear hm hnf; omega) | omega)) (fun A41 e42 => ?_)
          replace hT := qlc e42 hT
          have i43 := iva_st i36 e42 trivial
          have j44 := ivf_sa j37 e42 rfl
          have f45 := frm_s f38 e42 rfl
          refine fun v46 e47 => ?_
          replace hT := qlc e47 hT
          exact And.intro (by (first | (clear hm hnf; omega) | omega)) (Exists.intro (500 - v46 : Int).toNat (And.intro (by first | exact qtn hm (by (try clear hm hnf); omega) | omega) (And.intro i43 (And.intro j44 (And.intro f45 (And.intro rfl (And.intro (by (first | (clear hm hnf; omega) | omega)) (And.intro (by (first | (clear hm hnf; omega) | omega)) (And.intro (by (first | (clear hm hnf; omega) | omega)) (And.intro (by (first | (clear hm hnf; omega) | omega)) (And.intro (by (first | (clear hm hnf; omega) | omega)) (And.intro (by (first | (clear hm hnf; omega) | omega)) (And.intro (by (first | (clear hm hnf; omega) | omega)) (And.intro (by (first | (clear hm hnf; omega) | omega)) (And.intro (by (first | (clear hm hnf; omega) | omega)) (And.intro (by (first | (clear hm hnf; omega) | omega)) (And.intro (by (first | (clear hm hnf; omega) | omega)) (And.intro (by (first | (clear hm hnf; omega) | omega)) (And.intro (by (first | (clear hm hnf; omega) | omega)) (And.intro (by (first | (clear hm hnf; omega) | omega)) (And.intro (by (first | (clear hm hnf; omega) | omega)) (And.intro (by first | (intro i h0 h1; omega) | (intro i h0 h1; by_cases hi : i = x; (rw [hi]; first | exact ⟨(up_e (Eq.trans (st_a e42 rfl) (st_u e35))).trans (by rw [if_pos (by (first | (clear hm hnf; omega) | omega))]; omega), (up_e (Eq.trans (st_u e42) (cu (st_a e35 rfl)))).trans (by (first | (clear hm hnf; omega) | omega))⟩ | exact ⟨(up_e (Eq.trans (st_a e42 rfl) (st_u e35))).trans (by rw [if_neg (by (first | (clear hm hnf; omega) | omega))]; omega), (up_e (Eq.trans (st_u e42) (cu (st_a e35 rfl)))).trans (by (first | (clear hm hnf; omega) | omega))⟩); (have q3 := c15 i h0 (by (first | (clear hm hnf; omega) | omega)); exact ⟨(up_n (Eq.trans (st_a e42 rfl) (st_u e35)) hi).trans q3.1, (up_n (Eq.trans (st_u e42) (cu (st_a e35 rfl))) hi).trans q3.2⟩))) (Exists.intro ng (And.intro (by first | exact qtm hm hnf (by (try clear hm hnf); omega) | omega) hT))))))))))))))))))))))))
        · replace hT := (if_pos h31).symm.trans hT
          refine fun (v48 : Int) (e49 : v48 = 1) => ?_
          replace hT := qlc e49 hT
          refine And.intro (by (first | (clear hm hnf; omega) | omega)) (fun A50 e51 => ?_)
          replace hT := qlc e51 hT
          have i52 := iva_st i1 e51 trivial
          have j53 := ivf_sa j1 e51 rfl
          have f54 := frm_s f1 e51 rfl
          refine fun (v55 : Int) (e56 : v55 = 0) => ?_
          replace hT := qlc e56 hT
          refine And.intro (by (first | (clear hm hnf; omega) | omega)) (fun A57 e58 => ?_)
          replace hT := qlc e58 hT
          have i59 := iva_st i52 e58 trivial
          have j60 := ivf_sa j53 e58 rfl
          have f61 := frm_s f54 e58 rfl
          refine fun v62 e63 => ?_
          replace hT := qlc e63 hT
          exact And.intro (by (first | (clear hm hnf; omega) | omega)) (Exists.intro (500 - v62 : Int).toNat (And.intro (by first | exact qtn hm (by (try clear hm hnf); omega) | omega) (And.intro i59 (And.intro j60 (And.intro f61 (And.intro rfl (And.intro (by (first | (clear hm hnf; omega) | omega)) (And.intro (by (first | (clear hm hnf; omega) | omega)) (And.intro (by (first | (clear hm hnf; omega) | omega)) (And.intro (by (first | (clear hm hnf; omega) | omega)) (And.intro (by (first | (clear hm hnf; omega) | omega)) (And.intro (by (first | (clear hm hnf; omega) | omega)) (And.intro (by (first | (clear hm hnf; omega) | omega)) (And.intro (by (first | (clear hm hnf; omega) | omega)) (And.intro (by (first | (clear hm hnf; omega) | omega)) (And.intro (by (first | (clear hm hnf; omega) | omega)) (And.intro (by (first | (clear hm hnf; omega) | omega)) (And.intro (by (first | (clear hm hnf; omega) | omega)) (And.intro (by (first | (clear hm hnf; omega) | omega)) (And.intro (by (first | (clear hm hnf; omega) | omega)) (And.intro (by (first | (clear hm hnf; omega) | omega)) (And.intro (by first | (intro i h0 h1; omega) | (intro i h0 h1; by_cases hi : i = x; (rw [hi]; first | exact ⟨(up_e (Eq.trans (st_a e58 rfl) (st_u e51))).trans (by rw [if_pos (by (first | (clear hm hnf; omega) | omega))]; omega), (up_e (Eq.trans (st_u e58) (cu (st_a e51 rfl)))).trans (by (first | (clear hm hnf; omega) | omega))⟩ | exact ⟨(up_e (Eq.trans (st_a e58 rfl) (st_u e51))).trans (by rw [if_neg (by (first | (clear hm hnf; omega) | omega))]; omega), (up_e (Eq.trans (st_u e58) (cu (st_a e51 rfl)))).trans (by (first | (clear hm hnf; omega) | omega))⟩); (have q3 := c15 i h0 (by (first | (clear hm hnf; omega) | omega)); exact ⟨(up_n (Eq.trans (st_a e58 rfl) (st_u e51)) hi).trans q3.1, (up_n (Eq.trans (st_u e58) (cu (st_a e51 rfl))) hi).trans q3.2⟩))) (Exists.intro ng (And.intro (by first | exact qtm hm hnf (by (try clear hm hnf); omega) | omega) hT))))))))))))))))))))))))
    · refine fun l2 l3 l4 l5 u y n B mm hB hz hI => ?_
      obtain ⟨i1, j1, f1, hm, c0, c1, c2, c3, c4, c5, c6, c7, c8, c9, c10, c11, c12, c13, c14, c15, c16, c17, c18, c19, c20, c21, c22, c23, c24, c25, c26, c27, c28, c29, c30, c31, ⟨nf, hnf, hT⟩⟩ := hI
      obtain ⟨hz_l2, hz_l3, hz_l4, hz_l5, hz_u, hz_y, hz_n, _⟩ := hz
      obtain ⟨ng, rfl⟩ : ∃ k, nf = k + 1 := ⟨nf - 1, by omega⟩
      replace hT := (fM_pollen_c58.eq_1 (fM_pollen_L ng) l2 l3 l4 l5 u y n B).symm.trans ((fM_pollen_L58 ng l2 l3 l4 l5 u y n B).symm.trans hT)
      refine And.intro (fun h64 => ?_) (fun h64 => ?_)
      · replace hT := (if_neg (Int.not_lt.mpr h64)).symm.trans hT
        refine Exists.intro u (Exists.intro y (And.intro rfl (And.intro (And.intro (by first | assumption | omega | simp_all) (And.intro (by first | assumption | omega | simp_all) (by first | assumption | omega | simp_all))) (fun r65 g68 g66 g67 => ?_))))
        replace hT := qlc g67 hT
        clear g67
        refine And.intro (fun h69 => ?_) (fun h69 => ?_)
        · replace hT := (if_neg h69).symm.trans hT
          refine And.intro (by (first | (clear hm hnf; omega) | omega)) (fun v70 e71 => ?_)
          replace hT := qlc e71 hT
          exact hK _ i1 j1 f1 _ (by first | assumption | omega | (subst_vars; exact l_rng _) | (subst_vars; exact (hB _ _).1) | exact qnL_rng (by decide)) (congrArg Prod.fst hT) (congrArg Prod.snd hT)
        · replace hT := (if_pos h69).symm.trans hT
          refine And.intro (by (first | (clear hm hnf; omega) | omega)) (fun v72 e73 => ?_)
          replace hT := qlc e73 hT
          exact hK _ i1 j1 f1 _ (by first | assumption | omega | (subst_vars; exact l_rng _) | (subst_vars; exact (hB _ _).1) | exact qnL_rng (by decide)) (congrArg Prod.fst hT) (congrArg Prod.snd hT)
      · replace hT := (if_pos h64).symm.trans hT
        refine Exists.intro (y - u) (And.intro rfl (And.intro (And.intro i1 (And.intro j1 (And.intro (by first | assumption | omega | simp_all) (And.intro (by first | assumption | omega | simp_all) (by first | assumption | omega | simp_all))))) (fun A74 i75 j76 f77 g78 g79 => ?_)))
        replace hT := qlc g79 hT
        have f80 := frm_c f1 f77 rfl
        have hm1 := jmul3 (y := y) (by (first | (clear hm hnf; omega) | omega))
        refine fun v81 e82 => ?_
        replace hT := qlc e82 hT
        have hm2 := jmul3 (y := u) (by (first | (clear hm hnf; omega) | omega))
        refine fun v83 e84 => ?_
        replace hT := qlc e84 hT
        refine Exists.intro l2 (Exists.intro l3 (Exists.intro (3 * (y - u)) (And.intro rfl (And.intro (And.intro i75 (And.intro j76 (And.intro (by (first | (clear hm hnf; omega) | omega)) (And.intro (by (first | (clear hm hnf; omega) | omega)) (And.intro (by first | assumption | omega | simp_all) (by first | assumption | omega | simp_all)))))) (fun A85 i86 j87 f88 r89 g95 g90 g91 g92 g93 g94 => ?_)))))
        replace hT := qlpc g93 g94 hT
        clear g93 g94
        have f96 := frm_c f80 f88 rfl
        have hm3 := jadd_id (x := v83) (y := r89) (by (first | (clear hm hnf; omega) | omega))
        refine fun v97 e98 => ?_
        replace hT := qlc e98 hT
        refine fun v99 e100 => ?_
        replace hT := qlc e100 hT
        exact And.intro (by (first | (clear hm hnf; omega) | omega)) (Exists.intro (12 - v99 : Int).toNat (And.intro (by first | exact qtn hm (by (try clear hm hnf); omega) | omega) (And.intro i86 (And.intro j87 (And.intro f96 (And.intro rfl (And.intro (by (first | (clear hm hnf; omega) | omega)) (And.intro (by (first | (clear hm hnf; omega) | omega)) (And.intro (by (first | (clear hm hnf; omega) | omega)) (And.intro (by (first | (clear hm hnf; omega) | omega)) (And.intro (by (first | (clear hm hnf; omega) | omega)) (And.intro (by (first | (clear hm hnf; omega) | omega)) (And.intro (by (first | (clear hm hnf; omega) | omega)) (And.intro (by (first | (clear hm hnf; omega) | omega)) (And.intro (by (first | (clear hm hnf; omega) | omega)) (And.intro (by (first | (clear hm hnf; omega) | omega)) (And.intro (by (first | (clear hm hnf; omega) | omega)) (And.intro (by (first | (clear hm hnf; omega) | omega)) (And.intro (by (first | (clear hm hnf; omega) | omega)) (And.intro (by (first | (clear hm hnf; omega) | omega)) (And.intro (by (first | (clear hm hnf; omega) | omega)) (And.intro (by (first | (clear hm hnf; omega) | omega)) (And.intro (by (first | (clear hm hnf; omega) | omega)) (And.intro (by (first | (clear hm hnf; omega) | omega)) (And.intro (by exact LQ_k g92 rfl rfl (by (first | (clear hm hnf; omega) | omega))) (And.intro (by (first | (clear hm hnf; omega) | omega)) (And.intro (by (first | (clear hm hnf; omega) | omega)) (And.intro (by (first | (clear hm hnf; omega) | omega)) (And.intro (by (first | (clear hm hnf; omega) | omega)) (And.intro (by (first | (clear hm hnf; omega) | omega)) (And.intro (by (first | (clear hm hnf; omega) | omega)) (And.intro (by (first | (clear hm hnf; omega) | omega)) (And.intro (by (first | (clear hm hnf; omega) | omega)) (And.intro (by (first | (clear hm hnf; omega) | omega)) (And.intro (by (first | (clear hm hnf; omega) | omega)) (And.intro (by (first | (clear hm hnf; omega) | omega)) (And.intro (by (first | (clear hm hnf; omega) | omega)) (And.intro (by (first | (clear hm hnf; omega) | omega)) (Exists.intro ng (And.intro (by first | exact qtm hm hnf (by (try clear hm hnf); omega) | omega) hT))))))))))))))))))))))))))))))))))))))))
  · refine Exists.intro f (Exists.intro 0 (Exists.intro 7 (And.intro rfl (And.intro (fun h1 => ?_) (fun h1 => ?_)))))
    · replace hT := (if_pos h1).symm.trans hT
      refine And.intro (fun h2 => by exfalso; omega) (fun h2 => ?_)
      refine Exists.intro t (Exists.intro 0 (Exists.intro 7 (And.intro rfl (And.intro (fun h3 => ?_) (fun h3 => ?_)))))
      · replace hT := (if_pos h3).symm.trans hT
        refine And.intro (fun h4 => by exfalso; omega) (fun h4 => ?_)
        refine Exists.intro k (Exists.intro 0 (Exists.intro 5 (And.intro rfl (And.intro (fun h5 => ?_) (fun h5 => ?_)))))
        · replace hT := (if_pos h5).symm.trans hT
          refine And.intro (fun h6 => by exfalso; omega) (fun h6 => ?_)
          refine Exists.intro s (Exists.intro 1 (Exists.intro 12 (And.intro rfl (And.intro (fun h7 => ?_) (fun h7 => ?_)))))
          · replace hT := (if_pos h7).symm.trans hT
            refine And.intro (fun h8 => by exfalso; omega) (fun h8 => ?_)
            refine Exists.intro w (Exists.intro 0 (Exists.intro 1 (And.intro rfl (And.intro (fun h9 => ?_) (fun h9 => ?_)))))
            · replace hT := (if_pos h9).symm.trans hT
              refine And.intro (fun h10 => ?_) (fun h10 => by exfalso; omega)
              exact Exists.intro (500 - 0 : Int).toNat (And.intro i0 (And.intro j0 (And.intro f0 (And.intro rfl (And.intro (by (first | (clear hm hnf; omega) | omega)) (And.intro (by (first | (clear hm hnf; omega) | omega)) (And.intro (by (first | (clear hm hnf; omega) | omega)) (And.intro (by (first | (clear hm hnf; omega) | omega)) (And.intro (by (first | (clear hm hnf; omega) | omega)) (And.intro (by (first | (clear hm hnf; omega) | omega)) (And.intro (by (first | (clear hm hnf; omega) | omega)) (And.intro (by (first | (clear hm hnf; omega) | omega)) (And.intro (by (first | (clear hm hnf; omega) | omega)) (And.intro (by (first | (clear hm hnf; omega) | omega)) (And.intro (by (first | (clear hm hnf; omega) | omega)) (And.intro (by (first | (clear hm hnf; omega) | omega)) (And.intro (by (first | (clear hm hnf; omega) | omega)) (And.intro (by (first | (clear hm hnf; omega) | omega)) (And.intro (by (first | (clear hm hnf; omega) | omega)) (And.intro (by first | (intro i h0 h1; omega) | (intro i h0 h1; by_cases hi : i = x; (rw [hi]; first | exact ⟨(up_e hK).trans (by rw [if_pos (by (first | (clear hm hnf; omega) | omega))]; omega), (up_e hK).trans (by (first | (clear hm hnf; omega) | omega))⟩ | exact ⟨(up_e hK).trans (by rw [if_neg (by (first | (clear hm hnf; omega) | omega))]; omega), (up_e hK).trans (by (first | (clear hm hnf; omega) | omega))⟩); (have q3 := hK i h0 (by (first | (clear hm hnf; omega) | omega)); exact ⟨(up_n hK hi).trans q3.1, (up_n hK hi).trans q3.2⟩))) (Exists.intro 100000 (And.intro (by (first | (clear hm hnf; omega) | omega)) hT))))))))))))))))))))))
            · replace hT := (if_neg h9).symm.trans hT
              refine And.intro (fun h11 => by exfalso; omega) (fun h11 => ?_)
              exact hK _ i0 j0 f0 _ (by first | assumption | omega | (subst_vars; exact l_rng _) | (subst_vars; exact (hB _ _).1) | exact qnL_rng (by decide)) (congrArg Prod.fst hT) (congrArg Prod.snd hT)
          · replace hT := (if_neg h7).symm.trans hT
            refine And.intro (fun h12 => ?_) (fun h12 => by exfalso; omega)
            exact hK _ i0 j0 f0 _ (by first | assumption | omega | (subst_vars; exact l_rng _) | (subst_vars; exact (hB _ _).1) | exact qnL_rng (by decide)) (congrArg Prod.fst hT) (congrArg Prod.snd hT)
        · replace hT := (if_neg h5).symm.trans hT
          refine And.intro (fun h13 => ?_) (fun h13 => by exfalso; omega)
          exact hK _ i0 j0 f0 _ (by first | assumption | omega | (subst_vars; exact l_rng _) | (subst_vars; exact (hB _ _).1) | exact qnL_rng (by decide)) (congrArg Prod.fst hT) (congrArg Prod.snd hT)
      · replace hT := (if_neg h3).symm.trans hT
        refine And.intro (fun h14 => ?_) (fun h14 => by exfalso; omega)
        exact hK _ i0 j0 f0 _ (by first | assumption | omega | (subst_vars; exact l_rng _) | (subst_vars; exact (hB _ _).1) | exact qnL_rng (by decide)) (congrArg Prod.fst hT) (congrArg Prod.snd hT)
    · replace hT := (if_neg h1).symm.trans hT
      refine And.intro (fun h15 => ?_) (fun h15 => by exfalso; omega)
      exact hK _ i0 j0 f0 _ (by first | assumption | omega | (subst_vars; exact l_rng _) | (subst_vars; exact (hB _ _).1) | exact qnL_rng (by decide)) (congrArg Prod.fst hT) (congrArg Prod.snd hT)
theorem pM_pollen {f t k s w : Int} {A : qA} (hA : qokA LM A) (rg_f : rng f) (rg_t : rng t) (rg_k : rng k) (rg_s : rng s) (rg_w : rng w) (p0 : iva IM A) (p1 : ivf JM A) : qokA LM (fM_pollen f t k s w A).2 ∧ iva IM (fM_pollen f t k s w A).2 ∧ ivf JM (fM_pollen f t k s w A).2 ∧ frm [54, 55, 56, 57] [] A (fM_pollen f t k s w A).2 ∧ rngL (fM_pollen f t k s w A).1 := by
  obtain ⟨r, B, hB, _, hk⟩ := okM_ex okM_pollen (as := [rf 0, ni f, ni t, ni k, ni s, ni w]) (K := fun _ B => B = (fM_pollen f t k s w A).2 ∧ iva IM (fM_pollen f t k s w A).2 ∧ ivf JM (fM_pollen f t k s w A).2 ∧ frm [54, 55, 56, 57] [] A (fM_pollen f t k s w A).2 ∧ rngL (fM_pollen f t k s w A).1) hA (qoks_c (show qok (rf _) from trivial) (qoks_c (rg_f) (qoks_c (rg_t) (qoks_c (rg_k) (qoks_c (rg_s) (qoks_c (rg_w) qoks_n)))))) ⟨f, t, k, s, w, rfl, ⟨p0, p1⟩, fun A9 i9 j9 f9 r9 g9 x0 x1 => (by rw [← x1]; (try rw [← x0]); exact ⟨rfl, i9, j9, f9, g9⟩)⟩
  exact ⟨hk.1 ▸ hB, hk.2⟩
