/-! HOW A TEXT IS READ, as a function of its signs: a fault, or the place behind and the steps -/
abbrev pR : Type := Int ⊕ (Int × List (Int × Int))
def p_bind (x : pR) (f : Int → List (Int × Int) → pR) : pR := match x with
  | .inl e => .inl e
  | .inr (q, c) => f q c
def p_num (lk : Int → Int) : Nat → Int → Int → pR
  | 0, p, x => if 48 ≤ lk p ∧ lk p ≤ 57 then .inl (-2000 - p) else .inr (p, [(48, x)])
  | k + 1, p, x => if 48 ≤ lk p ∧ lk p ≤ 57 then p_num lk k (p + 1) (10 * x + lk p - 48) else .inr (p, [(48, x)])
def p_fac (lk : Int → Int) (op : Int → pR) (p : Int) : pR := if lk p = 91 then op p else (if 48 ≤ lk p ∧ lk p ≤ 57 then p_num lk 5 p 0 else (if qone 0 (lk p) = 0 then .inl (-1000 - p) else .inr (p + 1, [(107, qix 0 (lk p))])))
def p_bin (lk : Int → Int) (o : Nat) (f : Int → pR) : Nat → Int → List (Int × Int) → pR
  | 0, p, c => .inr (p, c)
  | k + 1, p, c => if qone o (lk p) = 0 then .inr (p, c) else p_bind (f (p + 1)) fun q c' => p_bin lk o f k q (c ++ c' ++ [(lk p, 0)])
def p_termF (lk : Int → Int) (fac : Int → pR) (p : Int) : pR := p_bind (fac p) fun q c => p_bin lk 4 fac 200 q c
def p_sumF (lk : Int → Int) (fac : Int → pR) (p : Int) : pR := p_bind (p_termF lk fac p) fun q c => p_bin lk 3 (p_termF lk fac) 200 q c
def p_clo (lk : Int → Int) (x : pR) (g : Int) : pR := p_bind x fun q c => if lk q = g then .inr (q + 1, c) else .inl (-1000 - q)
def p_facE (lk : Int → Int) : Nat → Int → pR
  | 0 => p_fac lk (fun p => .inl (-5000 - p))
  | e + 1 => p_fac lk (fun p => p_clo lk (p_sumF lk (p_facE lk e) (p + 1)) 93)
def p_termE (lk : Int → Int) (e : Nat) : Int → pR := p_termF lk (p_facE lk e)
def p_sumE (lk : Int → Int) (e : Nat) : Int → pR := p_sumF lk (p_facE lk e)
def p_cmp (lk : Int → Int) (sum : Int → pR) (p : Int) : pR := p_bind (sum p) fun q c => if qone 2 (lk q) = 0 then .inl (-1000 - q) else p_bind (sum (q + 1)) fun q' c' => .inr (q', c ++ c' ++ [(lk q, 0)])
def p_jmp (lk : Int → Int) (g : Int) (f : Int → Int → pR) (z : Int) : Nat → Int → List (Int × Int) → pR
  | 0, p, c => .inr (p, c)
  | k + 1, p, c => if lk p = g then p_bind (f (z + c.length + 1) (p + 1)) fun q c' => p_jmp lk g f z k q (c ++ [(g, z + c.length + 1 + c'.length)] ++ c') else .inr (p, c)
def p_part (lk : Int → Int) (piece : Int → Int → pR) (z p : Int) : pR := p_bind (piece z p) fun q c => p_jmp lk 38 piece z 200 q c
def p_cond (lk : Int → Int) (piece : Int → Int → pR) (z p : Int) : pR := p_bind (p_part lk piece z p) fun q c => p_jmp lk 124 (p_part lk piece) z 200 q c
def p_pieceE (lk : Int → Int) : Nat → Int → Int → pR
  | 0 => fun _ p => if lk p = 40 then .inl (-5000 - p) else (if lk p = 33 then .inl (-5000 - p) else p_cmp lk (p_sumE lk 0) p)
  | e + 1 => fun z p => if lk p = 40 then p_clo lk (p_cond lk (p_pieceE lk e) z (p + 1)) 41 else (if lk p = 33 then p_bind (p_pieceE lk e z (p + 1)) fun q c => .inr (q, c ++ [(33, 0)]) else p_cmp lk (p_sumE lk (e + 1)) p)
def p_condE (lk : Int → Int) (e : Nat) (z p : Int) : pR := p_cond lk (p_pieceE lk e) z p
/-- what the signs are -/
def lkok (n : Int) (lk : Int → Int) : Prop := ∀ p, 0 ≤ p → (-1 ≤ lk p ∧ lk p ≤ 255) ∧ (n ≤ p → lk p = -1)
theorem lk_rng {n : Int} {lk : Int → Int} (h : lkok n lk) {p : Int} (hp : 0 ≤ p) : rng (lk p) := by
  have := h p hp
  exact ⟨by omega, by omega⟩
theorem lk_in {n : Int} {lk : Int → Int} (h : lkok n lk) {p : Int} (hp : 0 ≤ p) (h2 : lk p ≠ -1) : p < n := by
  have := h p hp
  by_cases q : n ≤ p
  · exact absurd (this.2 q) h2
  · omega
theorem lk_one {n : Int} {lk : Int → Int} (h : lkok n lk) {p : Int} (hp : 0 ≤ p) {s : Nat} (h2 : qone s (lk p) ≠ 0) : p < n ∧ 0 < lk p ∧ 0 ≤ qix s (lk p) := by
  rcases qone_p (s := s) (lk_rng h hp) with q | q
  · exact absurd q h2
  · exact ⟨lk_in h hp (by omega), q.1, q.2⟩
/-- it goes on, within the text, and makes no more steps than it reads signs -/
def pOk (n p : Int) (x : pR) : Prop := match x with
  | .inl f => f < 0
  | .inr (q, c) => p < q ∧ q ≤ n ∧ (c.length : Int) ≤ q - p
theorem pOk_neg {n p f : Int} (h : f < 0) : pOk n p (.inl f) := h
theorem pOk_num {n : Int} {lk : Int → Int} (h : lkok n lk) {p0 : Int} : ∀ (k : Nat) (p x : Int), 0 ≤ p → p0 < p → p ≤ n → pOk n p0 (p_num lk k p x)
  | 0, p, x, hp, h1, h2 => by
    unfold p_num
    split
    · exact pOk_neg (by omega)
    · exact ⟨h1, h2, by simp only [List.length_cons, List.length_nil]; omega⟩
  | k + 1, p, x, hp, h1, h2 => by
    unfold p_num
    split
    · next q => exact pOk_num h k (p + 1) _ (by omega) (by omega) (by have := lk_in h hp (by omega); omega)
    · exact ⟨h1, h2, by simp only [List.length_cons, List.length_nil]; omega⟩
theorem pOk_fac {n : Int} {lk : Int → Int} {op : Int → pR} (h : lkok n lk) (ho : ∀ p, 0 ≤ p → p < n → pOk n p (op p)) (p : Int) (hp : 0 ≤ p) (hn : p ≤ n) : pOk n p (p_fac lk op p) := by
  unfold p_fac
  split
  · next q => exact ho p hp (lk_in h hp (by omega))
  · split
    · next q =>
      have hq := lk_in h hp (by omega)
      unfold p_num
      rw [if_pos q]
      exact pOk_num h 4 (p + 1) _ (by omega) (by omega) (by omega)
    · split
      · exact pOk_neg (by omega)
      · next q =>
        have := lk_one h hp q
        exact ⟨by omega, by omega, by simp only [List.length_cons, List.length_nil]; omega⟩
theorem pOk_bind {n p : Int} {x : pR} {f : Int → List (Int × Int) → pR} (h : pOk n p x) (hf : ∀ q c, x = .inr (q, c) → p < q → q ≤ n → (c.length : Int) ≤ q - p → pOk n p (f q c)) : pOk n p (p_bind x f) := by
  rcases x with e | ⟨q, c⟩
  · exact h
  · exact hf q c rfl h.1 h.2.1 h.2.2
theorem pOk_bin {n : Int} {lk : Int → Int} {o : Nat} {f : Int → pR} (h : lkok n lk) (hf : ∀ p, 0 ≤ p → p ≤ n → pOk n p (f p)) {p0 : Int} (h0 : 0 ≤ p0) : ∀ (k : Nat) (p : Int) (c : List (Int × Int)), p0 < p → p ≤ n → (c.length : Int) ≤ p - p0 → pOk n p0 (p_bin lk o f k p c)
  | 0, p, c, h1, h2, h3 => ⟨h1, h2, h3⟩
  | k + 1, p, c, h1, h2, h3 => by
    unfold p_bin
    split
    · exact ⟨h1, h2, h3⟩
    · next q =>
      have hq := lk_one h (p := p) (by omega) q
      have h9 := hf (p + 1) (by omega) (by omega)
      rcases hx : f (p + 1) with e | ⟨q', c'⟩
      · rw [hx] at h9
        exact h9
      · rw [hx] at h9
        obtain ⟨a1, a2, a3⟩ := h9
        exact pOk_bin h hf h0 k q' _ (by omega) a2 (by simp only [List.length_append, List.length_cons, List.length_nil]; omega)
theorem pOk_termF {n : Int} {lk : Int → Int} {fac : Int → pR} (h : lkok n lk) (hf : ∀ p, 0 ≤ p → p ≤ n → pOk n p (fac p)) (p : Int) (hp : 0 ≤ p) (hn : p ≤ n) : pOk n p (p_termF lk fac p) :=
  pOk_bind (hf p hp hn) (fun q c _ h1 h2 h3 => pOk_bin h hf hp 200 q c h1 h2 h3)
theorem pOk_sumF {n : Int} {lk : Int → Int} {fac : Int → pR} (h : lkok n lk) (hf : ∀ p, 0 ≤ p → p ≤ n → pOk n p (fac p)) (p : Int) (hp : 0 ≤ p) (hn : p ≤ n) : pOk n p (p_sumF lk fac p) :=
  pOk_bind (pOk_termF h hf p hp hn) (fun q c _ h1 h2 h3 => pOk_bin h (pOk_termF h hf) hp 200 q c h1 h2 h3)
theorem pOk_clo {n p : Int} {lk : Int → Int} {x : pR} {g : Int} (h : lkok n lk) (hg : g ≠ -1) (hp : 0 ≤ p) (hx : pOk n (p + 1) x) : pOk n p (p_clo lk x g) := by
  rcases x with e | ⟨q, c⟩
  · exact hx
  · obtain ⟨a1, a2, a3⟩ := hx
    show pOk n p (if lk q = g then .inr (q + 1, c) else .inl (-1000 - q))
    split
    · next z =>
      have := lk_in h (p := q) (by omega) (by omega)
      exact ⟨by omega, by omega, by omega⟩
    · exact pOk_neg (by omega)
theorem pOk_facE {n : Int} {lk : Int → Int} (h : lkok n lk) : ∀ (e : Nat) (p : Int), 0 ≤ p → p ≤ n → pOk n p (p_facE lk e p)
  | 0, p, hp, hn => pOk_fac h (fun q hq _ => pOk_neg (by omega)) p hp hn
  | e + 1, p, hp, hn => pOk_fac h (fun q hq hq2 => pOk_clo h (by decide) hq (pOk_sumF h (pOk_facE h e) (q + 1) (by omega) (by omega))) p hp hn
theorem pOk_termE {n : Int} {lk : Int → Int} (h : lkok n lk) (e : Nat) (p : Int) (hp : 0 ≤ p) (hn : p ≤ n) : pOk n p (p_termE lk e p) := pOk_termF h (pOk_facE h e) p hp hn
theorem pOk_sumE {n : Int} {lk : Int → Int} (h : lkok n lk) (e : Nat) (p : Int) (hp : 0 ≤ p) (hn : p ≤ n) : pOk n p (p_sumE lk e p) := pOk_sumF h (pOk_facE h e) p hp hn
theorem pOk_cmp {n : Int} {lk : Int → Int} {sum : Int → pR} (h : lkok n lk) (hf : ∀ p, 0 ≤ p → p ≤ n → pOk n p (sum p)) (p : Int) (hp : 0 ≤ p) (hn : p ≤ n) : pOk n p (p_cmp lk sum p) := by
  refine pOk_bind (hf p hp hn) (fun q c _ h1 h2 h3 => ?_)
  split
  · exact pOk_neg (by omega)
  · next z =>
    have hq := lk_one h (p := q) (by omega) z
    have h9 := hf (q + 1) (by omega) (by omega)
    rcases hx : sum (q + 1) with e | ⟨q', c'⟩
    · rw [hx] at h9
      exact h9
    · rw [hx] at h9
      obtain ⟨a1, a2, a3⟩ := h9
      exact ⟨by omega, a2, by simp only [List.length_append, List.length_cons, List.length_nil]; omega⟩
theorem pOk_jmp {n : Int} {lk : Int → Int} {g : Int} {f : Int → Int → pR} {z : Int} (h : lkok n lk) (hg : g ≠ -1) (hf : ∀ y p, 0 ≤ p → p ≤ n → pOk n p (f y p)) {p0 : Int} (h0 : 0 ≤ p0) : ∀ (k : Nat) (p : Int) (c : List (Int × Int)), p0 < p → p ≤ n → (c.length : Int) ≤ p - p0 → pOk n p0 (p_jmp lk g f z k p c)
  | 0, p, c, h1, h2, h3 => ⟨h1, h2, h3⟩
  | k + 1, p, c, h1, h2, h3 => by
    unfold p_jmp
    split
    · next q =>
      have hq := lk_in h (p := p) (by omega) (by omega)
      have h9 := hf (z + c.length + 1) (p + 1) (by omega) (by omega)
      rcases hx : f (z + c.length + 1) (p + 1) with e | ⟨q', c'⟩
      · rw [hx] at h9
        exact h9
      · rw [hx] at h9
        obtain ⟨a1, a2, a3⟩ := h9
        exact pOk_jmp h hg hf h0 k q' _ (by omega) a2 (by simp only [List.length_append, List.length_cons, List.length_nil]; omega)
    · exact ⟨h1, h2, h3⟩
theorem pOk_part {n : Int} {lk : Int → Int} {piece : Int → Int → pR} (h : lkok n lk) (hf : ∀ y p, 0 ≤ p → p ≤ n → pOk n p (piece y p)) (z p : Int) (hp : 0 ≤ p) (hn : p ≤ n) : pOk n p (p_part lk piece z p) :=
  pOk_bind (hf z p hp hn) (fun q c _ h1 h2 h3 => pOk_jmp h (by decide) hf hp 200 q c h1 h2 h3)
theorem pOk_cond {n : Int} {lk : Int → Int} {piece : Int → Int → pR} (h : lkok n lk) (hf : ∀ y p, 0 ≤ p → p ≤ n → pOk n p (piece y p)) (z p : Int) (hp : 0 ≤ p) (hn : p ≤ n) : pOk n p (p_cond lk piece z p) :=
  pOk_bind (pOk_part h hf z p hp hn) (fun q c _ h1 h2 h3 => pOk_jmp h (by decide) (pOk_part h hf) hp 200 q c h1 h2 h3)
theorem pOk_pieceE {n : Int} {lk : Int → Int} (h : lkok n lk) : ∀ (e : Nat) (z p : Int), 0 ≤ p → p ≤ n → pOk n p (p_pieceE lk e z p)
  | 0, z, p, hp, hn => by
    unfold p_pieceE
    show pOk n p (if lk p = 40 then .inl (-5000 - p) else (if lk p = 33 then .inl (-5000 - p) else p_cmp lk (p_sumE lk 0) p))
    split
    · exact pOk_neg (by omega)
    · split
      · exact pOk_neg (by omega)
      · exact pOk_cmp h (pOk_sumE h 0) p hp hn
  | e + 1, z, p, hp, hn => by
    unfold p_pieceE
    show pOk n p (if lk p = 40 then p_clo lk (p_cond lk (p_pieceE lk e) z (p + 1)) 41 else (if lk p = 33 then p_bind (p_pieceE lk e z (p + 1)) fun q c => .inr (q, c ++ [(33, 0)]) else p_cmp lk (p_sumE lk (e + 1)) p))
    split
    · next q =>
      have hq := lk_in h hp (by omega)
      exact pOk_clo h (by decide) hp (pOk_cond h (pOk_pieceE h e) z (p + 1) (by omega) (by omega))
    · split
      · next q =>
        have hq := lk_in h hp (by omega)
        have h9 := pOk_pieceE h e z (p + 1) (by omega) (by omega)
        rcases hx : p_pieceE lk e z (p + 1) with e' | ⟨q', c'⟩
        · rw [hx] at h9
          exact h9
        · rw [hx] at h9
          obtain ⟨a1, a2, a3⟩ := h9
          exact ⟨by omega, a2, by simp only [List.length_append, List.length_cons, List.length_nil]; omega⟩
      · exact pOk_cmp h (pOk_sumE h (e + 1)) p hp hn
theorem pOk_condE {n : Int} {lk : Int → Int} (h : lkok n lk) (e : Nat) (z p : Int) (hp : 0 ≤ p) (hn : p ≤ n) : pOk n p (p_condE lk e z p) := pOk_cond h (pOk_pieceE h e) z p hp hn
/-! steps that lie at a place -/
def cat (s o : Int → Int) : Int → List (Int × Int) → Prop
  | _, [] => True
  | z, x :: c => (s z = x.1 ∧ o z = x.2) ∧ cat s o (z + 1) c
theorem cat_app {s o : Int → Int} : ∀ {c c' : List (Int × Int)} {z : Int}, cat s o z (c ++ c') ↔ cat s o z c ∧ cat s o (z + c.length) c'
  | [], c', z => by
    simp only [List.nil_append, List.length_nil, Int.natCast_zero, Int.add_zero, cat, true_and]
  | x :: c, c', z => by
    simp only [List.cons_append, cat, List.length_cons]
    rw [cat_app, show z + 1 + (c.length : Int) = z + ((c.length + 1 : Nat) : Int) by omega]
    exact ⟨fun h => ⟨⟨h.1, h.2.1⟩, h.2.2⟩, fun h => ⟨h.1.1, h.1.2, h.2⟩⟩
theorem cat_ext {s o s' o' : Int → Int} : ∀ {c : List (Int × Int)} {z : Int}, cat s o z c → (∀ k, z ≤ k → k < z + c.length → s' k = s k ∧ o' k = o k) → cat s' o' z c
  | [], _, _, _ => trivial
  | x :: c, z, h, he => by
    have h0 := he z (by omega) (by simp only [List.length_cons]; omega)
    refine ⟨⟨h0.1.trans h.1.1, h0.2.trans h.1.2⟩, cat_ext h.2 (fun k h1 h2 => he k (by omega) (by simp only [List.length_cons]; omega))⟩
theorem fd_eq {i j : Nat} : (fd i = fd j) = (i = j) := propext ⟨fd_inj, fun h => h ▸ rfl⟩
/-! a clause, a text -/
abbrev pX : Type := Int × List (Int × Int) × List (Int × Int)
def p_clause (lk : Int → Int) (q z p : Int) : Int ⊕ (Int × pX) := if qone 1 (lk p) = 0 then .inl (-1000 - p) else (if q < 14 then (match p_sumE lk 6 (p + 1) with
  | .inl f => .inl f
  | .inr (p1, c1) => if lk p1 = 40 then (match p_condE lk 5 (z + c1.length) (p1 + 1) with
    | .inl f => .inl f
    | .inr (p2, c2) => if lk p2 = 41 then .inr (p2 + 1, lk p, c1, c2) else .inl (-1000 - p2)) else .inl (-1000 - p1)) else .inl (-4000 - p))
def p_text (lk : Int → Int) : Nat → Int → Int → Int → Int ⊕ List pX
  | 0, _, _, _ => .inl (-1)
  | k + 1, q, z, p => match p_clause lk q z p with
    | .inl f => .inl f
    | .inr (p', x) => if lk p' = -1 then .inr [x] else (if lk p' = 59 then (match p_text lk k (q + 1) (z + x.2.1.length + x.2.2.length) (p' + 1) with
      | .inl f => .inl f
      | .inr T => .inr (x :: T)) else .inl (-1000 - p'))
/-- what a clause is: its steps come of reading -/
def goodX (n : Int) (lk : Int → Int) (z : Int) (x : pX) : Prop := (∃ p q, 0 ≤ p ∧ p ≤ n ∧ p_sumE lk 6 p = .inr (q, x.2.1)) ∧ ∃ p q, 0 ≤ p ∧ p ≤ n ∧ p_condE lk 5 (z + x.2.1.length) p = .inr (q, x.2.2)
def goodT (n : Int) (lk : Int → Int) : Int → List pX → Prop
  | _, [] => True
  | z, x :: T => goodX n lk z x ∧ goodT n lk (z + x.2.1.length + x.2.2.length) T
def txLen : Int → List pX → Int
  | z, [] => z
  | z, x :: T => txLen (z + x.2.1.length + x.2.2.length) T
def clOk (n p : Int) (q z : Int) (lk : Int → Int) (x : Int ⊕ (Int × pX)) : Prop := match x with
  | .inl f => f < 0
  | .inr (p', x) => q < 14 ∧ p < p' ∧ p' ≤ n ∧ (x.2.1.length : Int) + x.2.2.length ≤ p' - p ∧ goodX n lk z x
theorem clOk_is {n : Int} {lk : Int → Int} (h : lkok n lk) (q z p : Int) (hp : 0 ≤ p) (hn : p ≤ n) : clOk n p q z lk (p_clause lk q z p) := by
  unfold p_clause
  by_cases h1 : qone 1 (lk p) = 0
  · rw [if_pos h1]
    show (-1000 - p : Int) < 0
    omega
  · rw [if_neg h1]
    have hin := lk_one h hp h1
    by_cases h2 : q < 14
    · rw [if_pos h2]
      have h8 := pOk_sumE h 6 (p + 1) (by omega) (by omega)
      rcases hx : p_sumE lk 6 (p + 1) with f | ⟨p1, c1⟩
      · rw [hx] at h8
        exact h8
      · rw [hx] at h8
        obtain ⟨a1, a2, a3⟩ := h8
        show clOk n p q z lk (if lk p1 = 40 then (match p_condE lk 5 (z + c1.length) (p1 + 1) with
          | .inl f => .inl f
          | .inr (p2, c2) => if lk p2 = 41 then .inr (p2 + 1, lk p, c1, c2) else .inl (-1000 - p2)) else .inl (-1000 - p1))
        by_cases h3 : lk p1 = 40
        · rw [if_pos h3]
          have hin1 := lk_in h (p := p1) (by omega) (by omega)
          have h8 := pOk_condE h 5 (z + c1.length) (p1 + 1) (by omega) (by omega)
          rcases hx2 : p_condE lk 5 (z + c1.length) (p1 + 1) with f | ⟨p2, c2⟩
          · rw [hx2] at h8
            exact h8
          · rw [hx2] at h8
            obtain ⟨b1, b2, b3⟩ := h8
            show clOk n p q z lk (if lk p2 = 41 then .inr (p2 + 1, lk p, c1, c2) else .inl (-1000 - p2))
            by_cases h4 : lk p2 = 41
            · rw [if_pos h4]
              have hin2 := lk_in h (p := p2) (by omega) (by omega)
              refine ⟨h2, by omega, by omega, ?_, ⟨p + 1, p1, by omega, by omega, hx⟩, ⟨p1 + 1, p2, by omega, by omega, hx2⟩⟩
              show (c1.length : Int) + c2.length ≤ p2 + 1 - p
              omega
            · rw [if_neg h4]
              show (-1000 - p2 : Int) < 0
              omega
        · rw [if_neg h3]
          show (-1000 - p1 : Int) < 0
          omega
    · rw [if_neg h2]
      show (-4000 - p : Int) < 0
      omega
theorem txOk_is {n : Int} {lk : Int → Int} (h : lkok n lk) : ∀ (k : Nat) (q z p : Int), 0 ≤ p → p ≤ n → match p_text lk k q z p with | .inl f => f < 0 | .inr T => goodT n lk z T ∧ q + T.length ≤ 14 ∧ txLen z T ≤ z + (n - p)
  | 0, q, z, p, hp, hn => by
    show (-1 : Int) < 0
    decide
  | k + 1, q, z, p, hp, hn => by
    have h8 := clOk_is h q z p hp hn
    unfold p_text
    rcases hx : p_clause lk q z p with f | ⟨p', x⟩
    · rw [hx] at h8
      exact h8
    · rw [hx] at h8
      obtain ⟨a0, a1, a2, a3, a4⟩ := h8
      by_cases h1 : lk p' = -1
      · simp only [h1, if_true]
        refine ⟨⟨a4, trivial⟩, by simp only [List.length_cons, List.length_nil]; omega, ?_⟩
        show z + x.2.1.length + x.2.2.length ≤ z + (n - p)
        omega
      · by_cases h2 : lk p' = 59
        · have hin := lk_in h (p := p') (by omega) h1
          have ih := txOk_is h k (q + 1) (z + x.2.1.length + x.2.2.length) (p' + 1) (by omega) (by omega)
          simp only [h2, if_true, show ¬ ((59 : Int) = -1) by decide, if_false]
          rcases hy : p_text lk k (q + 1) (z + x.2.1.length + x.2.2.length) (p' + 1) with f | T
          · rw [hy] at ih
            exact ih
          · rw [hy] at ih
            have i2 := ih.2.1
            have i3 := ih.2.2
            refine ⟨⟨a4, ih.1⟩, by simp only [List.length_cons]; omega, ?_⟩
            show txLen (z + x.2.1.length + x.2.2.length) T ≤ z + (n - p)
            omega
        · simp only [h1, h2, if_false]
          omega
/-- how a text lies in the rows -/
def tx (lt bg sp nd : Int → Int) (P : Int → List (Int × Int) → Prop) : Int → Int → List pX → Prop
  | _, _, [] => True
  | q, z, x :: T => (lt q = x.1 ∧ bg q = z ∧ sp q = z + x.2.1.length ∧ nd q = z + x.2.1.length + x.2.2.length ∧ P z x.2.1 ∧ P (z + x.2.1.length) x.2.2) ∧ tx lt bg sp nd P (q + 1) (z + x.2.1.length + x.2.2.length) T
