/-! THE REFERENCE READS SO: sums -/
def opc (g : Int) : Int := if g = 107 then 1 else if g = 43 then 2 else if g = 45 then 3 else if g = 42 then 4 else if g = 47 then 5 else if g = 37 then 6 else if g = 60 then 7 else if g = 62 then 8 else if g = 61 then 9 else if g = 33 then 10 else if g = 38 then 11 else if g = 124 then 12 else 0
def ew (g : Int) : Int := 1048576 * opc g
def en (x : Int × Int) : Int := 1048576 * opc x.1 + x.2
def mcat (f : Int → Int) : Int → List Int → Prop
  | _, [] => True
  | z, x :: c => f z = x ∧ mcat f (z + 1) c
theorem mcat_app {f : Int → Int} : ∀ {c c' : List Int} {z : Int}, mcat f z (c ++ c') ↔ mcat f z c ∧ mcat f (z + c.length) c'
  | [], c', z => by
    simp only [List.nil_append, List.length_nil, Int.natCast_zero, Int.add_zero, mcat, true_and]
  | x :: c, c', z => by
    simp only [List.cons_append, mcat, List.length_cons]
    rw [mcat_app, show z + 1 + (c.length : Int) = z + ((c.length + 1 : Nat) : Int) by omega]
    exact ⟨fun h => ⟨⟨h.1, h.2.1⟩, h.2.2⟩, fun h => ⟨h.1.1, h.1.2, h.2⟩⟩
theorem mcat_ext {f g : Int → Int} : ∀ {c : List Int} {z : Int}, mcat f z c → (∀ k, z ≤ k → k < z + c.length → g k = f k) → mcat g z c
  | [], _, _, _ => trivial
  | x :: c, z, h, he => ⟨(he z (by omega) (by simp only [List.length_cons]; omega)).trans h.1, mcat_ext h.2 (fun k h1 h2 => he k (by omega) (by simp only [List.length_cons]; omega))⟩
/-- from A to B: the place, what waits besides, the code besides, how many are open besides -/
def eM (A B : qA) (q : Int) (ps c : List Int) (o : Int) : Prop := (B 0 (fd 27) = q ∧ B 0 (fd 32) = A 0 (fd 32) + ps.length ∧ B 0 (fd 31) = A 0 (fd 31) + c.length ∧ B 0 (fd 30) = A 0 (fd 30) + o) ∧ mcat (B 24) (A 0 (fd 32)) ps ∧ mcat (B 23) (A 0 (fd 31)) c ∧ (∀ j, j < A 0 (fd 32) → B 24 j = A 24 j) ∧ (∀ k, k < A 0 (fd 31) → B 23 k = A 23 k) ∧ frm [23, 24] [(0, 27), (0, 29), (0, 30), (0, 31), (0, 32), (0, 34)] A B
def prM (n : Int) (lk : Int → Int) (A : qA) : Prop := (A 0 (fd 28) = n ∧ n ≤ 200 ∧ (∀ p, 0 ≤ p → lk p = if p < n then ia (A 22 p) 255 else -1)) ∧ (0 ≤ A 0 (fd 27) ∧ A 0 (fd 27) ≤ n) ∧ (0 ≤ A 0 (fd 32) ∧ A 0 (fd 32) ≤ A 0 (fd 27)) ∧ (0 ≤ A 0 (fd 31) ∧ A 0 (fd 31) ≤ A 0 (fd 27)) ∧ (0 ≤ A 0 (fd 30) ∧ A 0 (fd 30) ≤ 6)
theorem eM_0 (A : qA) : eM A A (A 0 (fd 27)) [] [] 0 := ⟨⟨rfl, by simp, by simp, by simp⟩, trivial, trivial, fun _ _ => rfl, fun _ _ => rfl, frm_0 _ _ _⟩
theorem eM_tr {A X B : qA} {q q' o o' : Int} {ps ps' c c' : List Int} (h : eM A X q ps c o) (h2 : eM X B q' ps' c' o') : eM A B q' (ps ++ ps') (c ++ c') (o + o') := by
  obtain ⟨⟨a1, a2, a3, a4⟩, b, d, e, f, g⟩ := h
  obtain ⟨⟨a1', a2', a3', a4'⟩, b', d', e', f', g'⟩ := h2
  refine ⟨⟨a1', by rw [a2', a2, List.length_append]; omega, by rw [a3', a3, List.length_append]; omega, by omega⟩, mcat_app.mpr ⟨mcat_ext b (fun k _ h1 => e' k (by omega)), ?_⟩, mcat_app.mpr ⟨mcat_ext d (fun k _ h1 => f' k (by omega)), ?_⟩, fun j hj => ?_, fun k hk => ?_, frm_c g g' rfl⟩
  · rw [← a2]; exact b'
  · rw [← a3]; exact d'
  · rw [e' j (by omega)]; exact e j hj
  · rw [f' k (by omega)]; exact f k hk
theorem prM_e {n : Int} {lk : Int → Int} {A B : qA} {q o : Int} {ps c : List Int} (hp : prM n lk A) (h : eM A B q ps c o) (h1 : A 0 (fd 27) + ps.length ≤ q) (h2 : A 0 (fd 27) + c.length ≤ q) (h3 : q ≤ n) (h4 : 0 ≤ A 0 (fd 30) + o ∧ A 0 (fd 30) + o ≤ 6) : prM n lk B := by
  obtain ⟨⟨u1, u2, u3⟩, ⟨v1, v2⟩, ⟨w1, w2⟩, ⟨x1, x2⟩, y1, y2⟩ := hp
  obtain ⟨⟨a1, a2, a3, a4⟩, b, d, e, f, g⟩ := h
  refine ⟨⟨?_, u2, ?_⟩, by omega, by omega, by omega, by omega⟩
  · rw [frm_f g (r := 0) (j := 28) rfl]; exact u1
  · rw [frm_a g (r := 22) rfl]; exact u3
theorem here_is {n : Int} {lk : Int → Int} {A : qA} (hp : prM n lk A) : fM_here A = lk (A 0 (fd 27)) := by
  obtain ⟨⟨u1, u2, u3⟩, ⟨v1, v2⟩, _⟩ := hp
  unfold fM_here
  simp only [qlet]
  rw [u3 _ v1, u1]
theorem qn20 : qn 1048576 = 1048576 := rfl
theorem notes_is (o v : Int) (A : qA) : fM_notes o v A = qu (qu A 23 (A 0 (fd 31)) (1048576 * o + v)) 0 (fd 31) (A 0 (fd 31) + 1) := by
  unfold fM_notes
  simp only [qlet, qn20]
theorem wrong_is (w p : Int) (A : qA) : (fM_wrongAt w p A) 0 (fd 29) = (-1000) * w - p := by
  unfold fM_wrongAt
  simp only [qlet]
  exact qu_at _ _ _ _
theorem eM_notes {A B : qA} {q o : Int} {ps c : List Int} (h : eM A B q ps c o) (t v : Int) : eM A (fM_notes t v B) q ps (c ++ [1048576 * t + v]) o := by
  have := eM_tr h (B := fM_notes t v B) (q' := q) (ps' := []) (c' := [1048576 * t + v]) (o' := 0) (by
    rw [notes_is]
    refine ⟨⟨?_, ?_, ?_, ?_⟩, trivial, ⟨?_, trivial⟩, fun j hj => ?_, fun k hk => ?_, frm_sf (frm_s (frm_0 _ _ _) rfl rfl) rfl rfl⟩
    · simp [qu_is, fd_eq, h.1.1]
    · simp [qu_is, fd_eq]
    · simp [qu_is]
    · simp [qu_is, fd_eq]
    · simp [qu_is]
    · simp [qu_is]
    · have hk' : k ≠ B 0 (fd 31) := by omega
      simp [qu_is, hk'])
  simpa using this
theorem eM_go {A B : qA} {q o : Int} {ps c : List Int} (h : eM A B q ps c o) (v : Int) : eM A (qu B 0 (fd 27) v) v ps c o := by
  have := eM_tr h (B := qu B 0 (fd 27) v) (q' := v) (ps' := []) (c' := []) (o' := 0) ⟨⟨qu_at _ _ _ _, by simp [qu_is, fd_eq], by simp [qu_is, fd_eq], by simp [qu_is, fd_eq]⟩, trivial, trivial, fun j _ => by simp [qu_is], fun k _ => by simp [qu_is], frm_sf (frm_0 _ _ _) rfl rfl⟩
  simpa using this
theorem eM_push {A B : qA} {q o : Int} {ps c : List Int} (h : eM A B q ps c o) (v p' : Int) : eM A (qu (qu (qu B 24 (B 0 (fd 32)) v) 0 (fd 32) (B 0 (fd 32) + 1)) 0 (fd 27) p') p' (ps ++ [v]) c o := by
  have := eM_tr h (B := qu (qu (qu B 24 (B 0 (fd 32)) v) 0 (fd 32) (B 0 (fd 32) + 1)) 0 (fd 27) p') (q' := p') (ps' := [v]) (c' := []) (o' := 0) ⟨⟨qu_at _ _ _ _, by simp [qu_is, fd_eq], by simp [qu_is, fd_eq], by simp [qu_is, fd_eq]⟩, ⟨by simp [qu_is], trivial⟩, trivial, fun j hj => by
      have hj' : j ≠ B 0 (fd 32) := by omega
      simp [qu_is, hj'], fun k _ => by simp [qu_is], frm_sf (frm_sf (frm_s (frm_0 _ _ _) rfl rfl) rfl rfl) rfl rfl⟩
  simpa using this
/-- one that waits is taken off -/
theorem eM_pop {A B : qA} {q o v : Int} {ps c : List Int} (h : eM A B q (ps ++ [v]) c o) : eM A (qu B 0 (fd 32) (B 0 (fd 32) - 1)) q ps c o := by
  obtain ⟨⟨a1, a2, a3, a4⟩, b, d, e, f, g⟩ := h
  simp only [List.length_append, List.length_cons, List.length_nil] at a2
  refine ⟨⟨by simp [qu_is, fd_eq, a1], by rw [qu_at]; omega, by simp [qu_is, fd_eq, a3], by simp [qu_is, fd_eq, a4]⟩, ?_, ?_, ?_, ?_, frm_sf g rfl rfl⟩
  · exact mcat_ext (mcat_app.mp b).1 (fun k _ _ => by simp [qu_is])
  · exact mcat_ext d (fun k _ _ => by simp [qu_is])
  · intro j hj; rw [← e j hj]; simp [qu_is]
  · intro j hj; rw [← f j hj]; simp [qu_is]
theorem eM_open {A B : qA} {q o : Int} {ps c : List Int} (h : eM A B q ps c o) (v : Int) : eM A (qu B 0 (fd 30) v) q ps c (v - A 0 (fd 30)) := by
  obtain ⟨⟨a1, a2, a3, a4⟩, b, d, e, f, g⟩ := h
  refine ⟨⟨by simp [qu_is, fd_eq, a1], by simp [qu_is, fd_eq, a2], by simp [qu_is, fd_eq, a3], by rw [qu_at]; omega⟩, ?_, ?_, ?_, ?_, frm_sf g rfl rfl⟩
  · exact mcat_ext b (fun k _ _ => by simp [qu_is])
  · exact mcat_ext d (fun k _ _ => by simp [qu_is])
  · intro j hj; rw [← e j hj]; simp [qu_is]
  · intro j hj; rw [← f j hj]; simp [qu_is]
/-- what waits on top -/
theorem top_is {A B : qA} {q o v : Int} {ps c : List Int} (h : eM A B q (ps ++ [v]) c o) (h0 : 0 ≤ A 0 (fd 32)) (hv : 0 ≤ v) : fM_top B = v / 1048576 := by
  obtain ⟨⟨a1, a2, a3, a4⟩, b, d, e, f, g⟩ := h
  simp only [List.length_append, List.length_cons, List.length_nil] at a2
  have hb := (mcat_app.mp b).2.1
  unfold fM_top
  simp only [qlet, qn20]
  rw [if_neg (show ¬ B 0 (fd 32) = 0 by omega), show B 0 (fd 32) - 1 = A 0 (fd 32) + (ps.length : Int) by omega, hb, qd_nn hv]
theorem top_base {A B : qA} {q o : Int} {c : List Int} (h : eM A B q [] c o) : fM_top B = fM_top A := by
  obtain ⟨⟨a1, a2, a3, a4⟩, b, d, e, f, g⟩ := h
  simp only [List.length_nil] at a2
  unfold fM_top
  simp only [qlet]
  rw [show B 0 (fd 32) = A 0 (fd 32) by omega, e (A 0 (fd 32) - 1) (by omega)]
/-! the signs -/
def aZ : qA := fun _ _ => 0
theorem sg_all : ∀ k : Nat, k < 257 → (((qone 3 ((k : Int) - 1) = 0 ∧ qone 4 ((k : Int) - 1) = 0 ∧ fM_sumSign ((k : Int) - 1) aZ = -1) ∨ (qone 3 ((k : Int) - 1) ≠ 0 ∧ qone 4 ((k : Int) - 1) = 0 ∧ fM_sumSign ((k : Int) - 1) aZ = opc ((k : Int) - 1) ∧ 2 ≤ opc ((k : Int) - 1) ∧ opc ((k : Int) - 1) ≤ 3) ∨ (qone 3 ((k : Int) - 1) = 0 ∧ qone 4 ((k : Int) - 1) ≠ 0 ∧ fM_sumSign ((k : Int) - 1) aZ = opc ((k : Int) - 1) ∧ 4 ≤ opc ((k : Int) - 1) ∧ opc ((k : Int) - 1) ≤ 6)) ∧ ((qone 0 ((k : Int) - 1) = 0 ∧ fM_factOf ((k : Int) - 1) aZ = -1) ∨ (qone 0 ((k : Int) - 1) ≠ 0 ∧ fM_factOf ((k : Int) - 1) aZ = qix 0 ((k : Int) - 1) ∧ qix 0 ((k : Int) - 1) ≠ -1)) ∧ (qone 1 ((k : Int) - 1) = fM_canBegin ((k : Int) - 1) aZ) ∧ (qone 2 ((k : Int) - 1) = 0 ↔ ¬ ((k : Int) - 1 = 60 ∨ (k : Int) - 1 = 62 ∨ (k : Int) - 1 = 61)) ∧ ((k : Int) - 1 = 93 → fM_sumSign ((k : Int) - 1) aZ = -1)) := by decide +kernel
theorem sg_sum {x : Int} (h0 : -1 ≤ x) (h1 : x ≤ 255) (A : qA) : (qone 3 x = 0 ∧ qone 4 x = 0 ∧ fM_sumSign x A = -1) ∨ (qone 3 x ≠ 0 ∧ qone 4 x = 0 ∧ fM_sumSign x A = opc x ∧ 2 ≤ opc x ∧ opc x ≤ 3) ∨ (qone 3 x = 0 ∧ qone 4 x ≠ 0 ∧ fM_sumSign x A = opc x ∧ 4 ≤ opc x ∧ opc x ≤ 6) := by
  have := (sg_all (x + 1).toNat (by omega)).1
  rw [show (((x + 1).toNat : Nat) : Int) - 1 = x by omega] at this
  exact this
theorem sg_fact {x : Int} (h0 : -1 ≤ x) (h1 : x ≤ 255) (A : qA) : (qone 0 x = 0 ∧ fM_factOf x A = -1) ∨ (qone 0 x ≠ 0 ∧ fM_factOf x A = qix 0 x ∧ qix 0 x ≠ -1) := by
  have := (sg_all (x + 1).toNat (by omega)).2.1
  rw [show (((x + 1).toNat : Nat) : Int) - 1 = x by omega] at this
  exact this
theorem sg_beg {x : Int} (h0 : -1 ≤ x) (h1 : x ≤ 255) (A : qA) : qone 1 x = fM_canBegin x A := by
  have := (sg_all (x + 1).toNat (by omega)).2.2.1
  rw [show (((x + 1).toNat : Nat) : Int) - 1 = x by omega] at this
  exact this
theorem sg_cmp {x : Int} (h0 : -1 ≤ x) (h1 : x ≤ 255) : qone 2 x = 0 ↔ ¬ (x = 60 ∨ x = 62 ∨ x = 61) := by
  have := (sg_all (x + 1).toNat (by omega)).2.2.2.1
  rw [show (((x + 1).toNat : Nat) : Int) - 1 = x by omega] at this
  exact this
theorem sg_93 (A : qA) : fM_sumSign 93 A = -1 := rfl
/-! closing of sums -/
/-- whether a sign on top is taken off -/
def hit (a t : Int) : Prop := (4 ≤ t ∧ t ≤ 6) ∨ (a = 1 ∧ 2 ≤ t ∧ t ≤ 6)
def popM (B : qA) : qA := qu (fM_notes (fM_top B) 0 B) 0 (fd 32) ((fM_notes (fM_top B) 0 B) 0 (fd 32) - 1)
theorem cl_pop {a : Int} {B : qA} (rec : Nat → List Int → qA → qA) (ha : a = 0 ∨ a = 1) (h : hit a (fM_top B)) : fM_closesSums_c0 rec a B = rec 0 [a] (popM B) := by
  unfold fM_closesSums_c0 popM
  simp only [qlet]
  unfold hit at h
  repeat' split
  all_goals first | rfl | (exfalso; omega)
theorem cl_end {a : Int} {B : qA} (rec : Nat → List Int → qA → qA) (ha : a = 0 ∨ a = 1) (h : ¬ hit a (fM_top B)) : fM_closesSums_c0 rec a B = B := by
  unfold fM_closesSums_c0
  simp only [qlet]
  unfold hit at h
  repeat' split
  all_goals first | rfl | (exfalso; omega)
theorem closes_L {A : qA} {q o a : Int} (h0 : 0 ≤ A 0 (fd 32)) (ha : a = 0 ∨ a = 1) (ht : ¬ hit a (fM_top A)) : ∀ (ps : List Int) (F : Nat) (B : qA) (c : List Int), ps.length < F → (∀ g ∈ ps, hit a (opc g)) → eM A B q (ps.reverse.map ew) c o → eM A (fM_closesSums_L F 0 [a] B) q [] (c ++ ps.map ew) o
  | _, 0, _, _, h, _, _ => absurd h (Nat.not_lt_zero _)
  | [], F + 1, B, c, hF, hp, h => by
    show eM A (fM_closesSums_c0 (fM_closesSums_L F) a B) q [] (c ++ []) o
    have h : eM A B q [] c o := h
    rw [cl_end _ ha (by rw [top_base h]; exact ht), List.append_nil]
    exact h
  | g :: ps, F + 1, B, c, hF, hp, h => by
    show eM A (fM_closesSums_c0 (fM_closesSums_L F) a B) q [] (c ++ (ew g :: ps.map ew)) o
    rw [List.reverse_cons, List.map_append] at h
    have h : eM A B q (ps.reverse.map ew ++ [ew g]) c o := h
    have hg := hp g List.mem_cons_self
    have hr : 2 ≤ opc g ∧ opc g ≤ 6 := by unfold hit at hg; omega
    have htop : fM_top B = opc g := by
      rw [top_is h h0 (by unfold ew; omega)]
      unfold ew
      omega
    rw [cl_pop _ ha (by rw [htop]; exact hg)]
    have h2 := eM_pop (eM_notes h (fM_top B) 0)
    rw [htop, Int.add_zero] at h2
    have h3 := closes_L h0 ha ht ps F (popM B) (c ++ [ew g]) (by simp only [List.length_cons] at hF; omega) (fun g' hg' => hp g' (List.mem_cons_of_mem _ hg')) (by unfold popM; rw [htop]; exact h2)
    rw [List.append_assoc] at h3
    exact h3
theorem closes {A B : qA} {q o a : Int} {ps c : List Int} (h0 : 0 ≤ A 0 (fd 32)) (ha : a = 0 ∨ a = 1) (ht : ¬ hit a (fM_top A)) (hl : ps.length < 100001) (hp : ∀ g ∈ ps, hit a (opc g)) (h : eM A B q (ps.map ew) c o) : eM A (fM_closesSums a B) q [] (c ++ ps.reverse.map ew) o := by
  have := closes_L h0 ha ht ps.reverse 100001 B c (by rw [List.length_reverse]; exact hl) (fun g hg => hp g (List.mem_reverse.mp hg)) (by rw [List.reverse_reverse]; exact h)
  exact this
theorem closes_none {B : qA} {a : Int} (ha : a = 0 ∨ a = 1) (ht : ¬ hit a (fM_top B)) : fM_closesSums a B = B := cl_end (fM_closesSums_L 100000) ha ht
/-! brackets of sums -/
theorem open_none {b : Int} {A : qA} : ∀ (m F : Nat) (k : Int), m < F → A 0 (fd 32) - k ≤ m → b ≤ k → (∀ j, b ≤ j → j < A 0 (fd 32) → qd (A 24 j) 1048576 ≠ 14) → fM_hasOpenSum_L F 2 [k] A = 0
  | _, 0, _, h, _, _, _ => absurd h (Nat.not_lt_zero _)
  | m, F + 1, k, hF, hm, hb, h => by
    show fM_hasOpenSum_c2 (fM_hasOpenSum_L F) k A = 0
    unfold fM_hasOpenSum_c2
    simp only [qlet]
    rw [qn20]
    by_cases hk : k < A 0 (fd 32)
    · rw [if_pos hk, if_neg (h k hb hk)]
      cases m with
      | zero => exfalso; omega
      | succ m => exact open_none m F (k + 1) (by omega) (by omega) (by omega) h
    · rw [if_neg hk]
theorem open_some {A : qA} {j : Int} (hj : j < A 0 (fd 32)) (h14 : qd (A 24 j) 1048576 = 14) : ∀ (m F : Nat) (k : Int), m < F → j - k ≤ m → k ≤ j → fM_hasOpenSum_L F 2 [k] A = 1
  | _, 0, _, h, _, _ => absurd h (Nat.not_lt_zero _)
  | m, F + 1, k, hF, hm, hb => by
    show fM_hasOpenSum_c2 (fM_hasOpenSum_L F) k A = 1
    unfold fM_hasOpenSum_c2
    simp only [qlet]
    rw [qn20]
    rw [if_pos (show k < A 0 (fd 32) by omega)]
    by_cases hk : qd (A 24 k) 1048576 = 14
    · rw [if_pos hk]
    · rw [if_neg hk]
      have : k ≠ j := fun q => hk (q ▸ h14)
      cases m with
      | zero => exfalso; omega
      | succ m => exact open_some hj h14 m F (k + 1) (by omega) (by omega) (by omega)
/-! a number -/
theorem dig_is {n : Int} {lk : Int → Int} {A : qA} (hp : prM n lk A) : fM_isDigit A = if 48 ≤ lk (A 0 (fd 27)) ∧ lk (A 0 (fd 27)) ≤ 57 then 1 else 0 := by
  unfold fM_isDigit
  simp only [qlet]
  rw [here_is hp]
  repeat' split
  all_goals first | rfl | (exfalso; omega)
theorem numM_c {n : Int} {lk : Int → Int} (hlk : lkok n lk) {A : qA} (hA : prM n lk A) {f : Int} : ∀ (k F : Nat) (x : Int) (B : qA) (p : Int), p + (k : Int) = f + 5 → k < F → eM A B p [] [] 0 → B 0 (fd 34) = x → A 0 (fd 27) ≤ p → p ≤ n → (match p_num lk k p x with | .inl e => (fM_readsNumber_L F 6 [f] B).1 = 0 ∧ (fM_readsNumber_L F 6 [f] B).2 0 (fd 29) = e | .inr (q, c) => (fM_readsNumber_L F 6 [f] B).1 = 1 ∧ eM A (fM_readsNumber_L F 6 [f] B).2 q [] [] 0 ∧ c = [(48, (fM_readsNumber_L F 6 [f] B).2 0 (fd 34))])
  | _, 0, _, _, _, _, h, _, _, _, _ => absurd h (Nat.not_lt_zero _)
  | k, F + 1, x, B, p, hk, hF, hB, hx, h1, h2 => by
    have hBp := hB.1.1
    have hpB := prM_e hA hB (by simp only [List.length_nil]; omega) (by simp only [List.length_nil]; omega) h2 (by have := hA.2.2.2.2; omega)
    have e0 : fM_readsNumber_L (F + 1) 6 [f] B = fM_readsNumber_c6 (fM_readsNumber_L F) f B := rfl
    rw [e0]
    unfold fM_readsNumber_c6
    simp only [qlet]
    rw [dig_is hpB, here_is hpB, hBp, hx]
    by_cases hd : 48 ≤ lk p ∧ lk p ≤ 57
    · rw [if_pos hd, if_neg (show ¬ (1 : Int) = 0 by decide)]
      have hin := lk_in hlk (p := p) (by have := hA.2.1.1; omega) (by omega)
      cases k with
      | zero =>
        unfold p_num
        rw [if_pos hd, if_pos (show p = f + 5 by omega)]
        refine ⟨rfl, ?_⟩
        show (fM_wrongAt 2 p B) 0 (fd 29) = -2000 - p
        rw [wrong_is]; omega
      | succ k =>
        unfold p_num
        rw [if_pos hd, if_neg (show ¬ p = f + 5 by omega)]
        refine numM_c hlk hA k F _ _ (p + 1) (by omega) (by omega) (eM_go (q := p) ?_ _) (by simp [qu_is, fd_eq]) (by omega) (by omega)
        · obtain ⟨⟨a1, a2, a3, a4⟩, b, d, e, f', g⟩ := hB
          exact ⟨⟨by simp [qu_is, fd_eq, a1], by simp [qu_is, fd_eq, a2], by simp [qu_is, fd_eq, a3], by simp [qu_is, fd_eq, a4]⟩, trivial, trivial, fun j hj => by rw [← e j hj]; simp [qu_is], fun j hj => by rw [← f' j hj]; simp [qu_is], frm_sf g rfl rfl⟩
    · rw [if_neg hd, if_pos rfl]
      have : p_num lk k p x = .inr (p, [(48, x)]) := by
        cases k <;> (unfold p_num; rw [if_neg hd])
      rw [this]
      exact ⟨rfl, hB, by show [((48 : Int), x)] = [(48, B 0 (fd 34))]; rw [hx]⟩
theorem numM {n : Int} {lk : Int → Int} (hlk : lkok n lk) {A : qA} (hA : prM n lk A) : match p_num lk 5 (A 0 (fd 27)) 0 with | .inl e => (fM_readsNumber A).1 = 0 ∧ (fM_readsNumber A).2 0 (fd 29) = e | .inr (q, c) => (fM_readsNumber A).1 = 1 ∧ eM A (fM_readsNumber A).2 q [] [] 0 ∧ c = [(48, (fM_readsNumber A).2 0 (fd 34))] := by
  have h : eM A (qu A 0 (fd 34) 0) (A 0 (fd 27)) [] [] 0 := ⟨⟨by simp [qu_is, fd_eq], by simp [qu_is, fd_eq], by simp [qu_is, fd_eq], by simp [qu_is, fd_eq]⟩, trivial, trivial, fun j hj => by simp [qu_is], fun j hj => by simp [qu_is], frm_sf (frm_0 _ _ _) rfl rfl⟩
  exact numM_c hlk hA (f := A 0 (fd 27)) 5 100000 0 _ _ rfl (by decide) h (qu_at _ _ _ _) (Int.le_refl _) hA.2.1.2
/-! a factor, a term, a sum: what comes of the loop -/
def MS (b : Int) (F : Nat) (B : qA) : Int × qA := fM_readsSum_L F 8 [b] B
def MF (b : Int) (F : Nat) (B : qA) : Int × qA := if (fM_readsFactor B).1 = 0 then (0, (fM_readsFactor B).2) else MS b F (fM_readsFactor B).2
theorem opens_6 {w : Int} {A : qA} (h : A 0 (fd 30) = 6) : (fM_opens w A).1 = 0 ∧ (fM_opens w A).2 0 (fd 29) = -5000 - A 0 (fd 27) := by
  unfold fM_opens
  simp only [qlet]
  rw [if_pos h]
  refine ⟨rfl, ?_⟩
  show (fM_wrongAt 5 (A 0 (fd 27)) A) 0 (fd 29) = _
  rw [wrong_is]; omega
theorem opens_is {n : Int} {lk : Int → Int} {w : Int} {A : qA} (hA : prM n lk A) (hw : 0 ≤ w ∧ w ≤ 100) (h : A 0 (fd 30) < 6) : (fM_opens w A).1 = 1 ∧ eM A (fM_opens w A).2 (A 0 (fd 27) + 1) [1048576 * w] [] 1 := by
  obtain ⟨⟨u1, u2, u3⟩, ⟨v1, v2⟩, ⟨w1, w2⟩, ⟨x1, x2⟩, y1, y2⟩ := hA
  unfold fM_opens
  simp only [qlet, qn20]
  rw [if_neg (show ¬ A 0 (fd 30) = 6 by omega)]
  have e1 : wI (A 0 (fd 30) + 1) = A 0 (fd 30) + 1 := wI_id ⟨by omega, by omega⟩
  have e2 : wI (1048576 * w) = 1048576 * w := wI_id ⟨by omega, by omega⟩
  rw [e1, e2]
  have f1 : (qu A 0 (fd 30) (A 0 (fd 30) + 1)) 0 (fd 32) = A 0 (fd 32) := by simp [qu_is, fd_eq]
  rw [f1]
  have f2 : (qu (qu A 0 (fd 30) (A 0 (fd 30) + 1)) 24 (A 0 (fd 32)) (1048576 * w)) 0 (fd 32) = A 0 (fd 32) := by simp [qu_is, fd_eq]
  have e3 : wI (A 0 (fd 32) + 1) = A 0 (fd 32) + 1 := wI_id ⟨by omega, by omega⟩
  rw [e3]
  have f3 : (qu (qu (qu A 0 (fd 30) (A 0 (fd 30) + 1)) 24 (A 0 (fd 32)) (1048576 * w)) 0 (fd 32) (A 0 (fd 32) + 1)) 0 (fd 27) = A 0 (fd 27) := by simp [qu_is, fd_eq]
  rw [f3]
  have e4 : wI (A 0 (fd 27) + 1) = A 0 (fd 27) + 1 := wI_id ⟨by omega, by omega⟩
  rw [e4]
  refine ⟨rfl, ?_⟩
  have h1 := eM_open (eM_0 A) (A 0 (fd 30) + 1)
  have h2 := eM_push h1 (1048576 * w) (A 0 (fd 27) + 1)
  rw [f1, show A 0 (fd 30) + 1 - A 0 (fd 30) = 1 by omega] at h2
  exact h2
theorem rf_c0 (B : qA) : fM_readsFactor B = fM_readsFactor_c0 (fM_readsFactor_L 100000) B := rfl
/-- how often a bracket may follow another does not matter -/
theorem rf_L {n : Int} {lk : Int → Int} (hlk : lkok n lk) : ∀ (m F : Nat) (B : qA), m < F → n - B 0 (fd 27) ≤ m → prM n lk B → ∀ F2 : Nat, m < F2 → fM_readsFactor_L F 0 [] B = fM_readsFactor_L F2 0 [] B
  | _, 0, _, h, _, _, _, _ => absurd h (Nat.not_lt_zero _)
  | _, _, _, _, _, _, 0, h => absurd h (Nat.not_lt_zero _)
  | m, F + 1, B, hF, hm, hB, F2 + 1, hF2 => by
    show fM_readsFactor_c0 (fM_readsFactor_L F) B = fM_readsFactor_c0 (fM_readsFactor_L F2) B
    unfold fM_readsFactor_c0
    simp only [qlet, qlp]
    rw [here_is hB]
    by_cases h91 : lk (B 0 (fd 27)) = 91
    · rw [if_pos h91, if_pos h91]
      by_cases h6 : B 0 (fd 30) = 6
      · rw [if_pos (opens_6 h6).1, if_pos (opens_6 h6).1]
      · have ho := opens_is (w := 14) hB (by decide) (by have := hB.2.2.2.2; omega)
        have hin := lk_in hlk (p := B 0 (fd 27)) hB.2.1.1 (by omega)
        rw [if_neg (show ¬ (fM_opens 14 B).1 = 0 by rw [ho.1]; decide), if_neg (show ¬ (fM_opens 14 B).1 = 0 by rw [ho.1]; decide)]
        have hB2 := prM_e hB ho.2 (by simp only [List.length_cons, List.length_nil]; omega) (by simp only [List.length_nil]; omega) (by omega) (by have := hB.2.2.2.2; omega)
        cases m with
        | zero => exfalso; have := hB.2.1.2; omega
        | succ m => exact rf_L hlk m F _ (by omega) (by rw [ho.2.1.1]; omega) hB2 F2 (by omega)
    · rw [if_neg h91, if_neg h91]
theorem rf_is {n : Int} {lk : Int → Int} (hlk : lkok n lk) {B : qA} (hB : prM n lk B) : fM_readsFactor_L 100000 0 [] B = fM_readsFactor B := by
  have e : fM_readsFactor B = fM_readsFactor_L 100001 0 [] B := rfl
  rw [e]
  have := hB.2.1
  have h2 := hB.1.2.1
  exact rf_L hlk 200 100000 B (by decide) (by omega) hB 100001 (by decide)
def outF (n : Int) (b : Int) (A : qA) (x : pR) (y : Int × qA) : Prop := match x with
  | .inl f => y.1 = 0 ∧ y.2 0 (fd 29) = f
  | .inr (q, c) => ∃ (F : Nat) (B : qA), n - q < F ∧ y = MS b F B ∧ eM A B q [] (c.map en) 0
def outP (n : Int) (lk : Int → Int) (a : Int) (b : Int) (A : qA) (x : pR) (y : Int × qA) : Prop := match x with
  | .inl f => y.1 = 0 ∧ y.2 0 (fd 29) = f
  | .inr (q, c) => ∃ (F : Nat) (B : qA) (ps : List Int) (c0 : List (Int × Int)), n - q < F ∧ y = MS b F B ∧ eM A B q (ps.map ew) (c0.map en) 0 ∧ c = c0 ++ ps.reverse.map (fun g => (g, 0)) ∧ (∀ g ∈ ps, hit a (opc g)) ∧ (ps.length : Int) ≤ a + 1 ∧ (qone 4 (lk q) = 0 ∧ (a = 1 → qone 3 (lk q) = 0))
theorem en_0 (ps : List Int) : (ps.map (fun g => (g, (0 : Int)))).map en = ps.map ew := by
  rw [List.map_map]
  exact List.map_congr_left (fun g _ => by show 1048576 * opc g + 0 = _; rw [Int.add_zero]; rfl)
/-- a sign of a sum, behind which a factor comes -/
theorem step_MS {n : Int} {lk : Int → Int} {A B : qA} {b p a : Int} {F : Nat} {ps : List Int} {c : List (Int × Int)} (hB : prM n lk B) (hBp : B 0 (fd 27) = p) (hin : p < n) (hw : 0 ≤ A 0 (fd 32)) (hs : fM_sumSign (lk p) B = opc (lk p) ∧ ((2 ≤ opc (lk p) ∧ opc (lk p) ≤ 3 ∧ a = 1) ∨ (4 ≤ opc (lk p) ∧ opc (lk p) ≤ 6 ∧ a = 0))) (ht : ¬ hit a (fM_top A)) (hp : ∀ g ∈ ps, hit a (opc g)) (hl : ps.length ≤ 2) (h : eM A B p (ps.map ew) (c.map en) 0) : ∃ B1, MS b (F + 1) B = MF b F B1 ∧ eM A B1 (p + 1) [ew (lk p)] ((c ++ ps.reverse.map (fun g => (g, 0))).map en) 0 := by
  have hcl := closes (a := a) hw (by omega) ht (by omega) hp h
  have hcode : (c ++ ps.reverse.map (fun g => (g, (0 : Int)))).map en = c.map en ++ ps.reverse.map ew := by rw [List.map_append, en_0]
  rw [hcode]
  have hw2 : (fM_closesSums a B) 0 (fd 32) = A 0 (fd 32) := by rw [hcl.1.2.1]; simp
  have hp2 : (fM_closesSums a B) 0 (fd 27) = p := hcl.1.1
  have hbd := hB.2.2.1
  have hbn := hB.1.2.1
  have hwB : A 0 (fd 32) ≤ B 0 (fd 32) := by rw [h.1.2.1]; omega
  have hpush := eM_push hcl (ew (lk p)) (p + 1)
  rw [List.nil_append] at hpush
  refine ⟨_, ?_, hpush⟩
  show fM_readsSum_c8 (fM_readsSum_L F) b B = _
  unfold fM_readsSum_c8
  simp only [qlet, qlp, qn20]
  rw [here_is hB, hBp, hs.1, if_neg (show ¬ opc (lk p) = -1 by omega)]
  have e2 : wI (1048576 * opc (lk p)) = ew (lk p) := wI_id ⟨by omega, by omega⟩
  have e3 : wI (A 0 (fd 32) + 1) = A 0 (fd 32) + 1 := wI_id ⟨by omega, by omega⟩
  have e4 : wI (p + 1) = p + 1 := wI_id ⟨by omega, by omega⟩
  rcases hs.2 with ⟨h1, h2, rfl⟩ | ⟨h1, h2, rfl⟩
  · rw [if_pos (show opc (lk p) < 4 by omega)]
    generalize fM_closesSums 1 B = C at hw2 hp2 ⊢
    rw [hw2]
    simp only [e2, e3]
    rw [show (qu (qu C 24 (A 0 (fd 32)) (ew (lk p))) 0 (fd 32) (A 0 (fd 32) + 1)) 0 (fd 27) = p by simp [qu_is, fd_eq, hp2]]
    simp only [e4]
    rfl
  · rw [if_neg (show ¬ opc (lk p) < 4 by omega)]
    generalize fM_closesSums 0 B = C at hw2 hp2 ⊢
    rw [hw2]
    simp only [e2, e3]
    rw [show (qu (qu C 24 (A 0 (fd 32)) (ew (lk p))) 0 (fd 32) (A 0 (fd 32) + 1)) 0 (fd 27) = p by simp [qu_is, fd_eq, hp2]]
    simp only [e4]
    rfl
theorem hit_ew {a : Int} {A B : qA} {q o g : Int} {ps c : List Int} (h : eM A B q (ps ++ [ew g]) c o) (h0 : 0 ≤ A 0 (fd 32)) (hg : 2 ≤ opc g ∧ opc g ≤ 12) : fM_top B = opc g := by
  rw [top_is h h0 (by unfold ew; omega)]
  unfold ew
  omega
/-- a term: factors, as P reads them -/
theorem binT {n : Int} {lk : Int → Int} (hlk : lkok n lk) {b : Int} {f : Int → pR} {A : qA} (hA : prM n lk A) (ht : ¬ hit 0 (fM_top A)) (hok : ∀ p, 0 ≤ p → p ≤ n → pOk n p (f p)) (hf : ∀ (X : qA) (F : Nat), prM n lk X → X 0 (fd 30) = A 0 (fd 30) → b ≤ X 0 (fd 32) → n - X 0 (fd 27) < F → outF n b X (f (X 0 (fd 27))) (MF b F X)) (hb : b ≤ A 0 (fd 32)) : ∀ (k F : Nat) (B : qA) (p : Int) (ps : List Int) (c0 : List (Int × Int)), n - p < F → n - p < k → eM A B p (ps.map ew) (c0.map en) 0 → (∀ g ∈ ps, hit 0 (opc g)) → ps.length ≤ 1 → A 0 (fd 27) + ps.length ≤ p → A 0 (fd 27) + (c0.length + ps.length : Nat) ≤ p → p ≤ n → outP n lk 0 b A (p_bin lk 4 f k p (c0 ++ ps.reverse.map (fun g => (g, 0)))) (MS b F B)
  | 0, F, B, p, ps, c0, hF, hk, _, _, _, _, _, hn => by exfalso; omega
  | k + 1, F, B, p, ps, c0, hF, hk, hB, hps, hl, h1, h2, hn => by
    have hA0 := hA.2.1.1
    have hw0 := hA.2.2.1.1
    have hop := hA.2.2.2.2
    have hpB : prM n lk B := prM_e hA hB (by rw [List.length_map]; omega) (by rw [List.length_map]; omega) hn (by omega)
    have hBp := hB.1.1
    unfold p_bin
    by_cases hq : qone 4 (lk p) = 0
    · rw [if_pos hq]
      exact ⟨F, B, ps, c0, hF, rfl, hB, rfl, hps, by omega, hq, fun h => absurd h (by decide)⟩
    · rw [if_neg hq]
      have hin := lk_one hlk (p := p) (by omega) hq
      have hsg := sg_sum (by omega) (by have := (hlk p (by omega)).1; omega) B (x := lk p)
      have hs : fM_sumSign (lk p) B = opc (lk p) ∧ 4 ≤ opc (lk p) ∧ opc (lk p) ≤ 6 := by
        rcases hsg with z | z | z
        · exact absurd z.2.1 hq
        · exact absurd z.2.1 hq
        · exact ⟨z.2.2.1, z.2.2.2⟩
      obtain ⟨F, rfl⟩ : ∃ F', F = F' + 1 := ⟨F - 1, by omega⟩
      obtain ⟨B1, e1, hB1⟩ := step_MS (a := 0) (b := b) (F := F) hpB hBp hin.1 hw0 ⟨hs.1, Or.inr ⟨hs.2.1, hs.2.2, rfl⟩⟩ ht hps (by omega) hB
      rw [e1]
      have hlen : ((c0 ++ ps.reverse.map (fun g => (g, (0 : Int)))).map en).length = c0.length + ps.length := by simp
      have hpB1 : prM n lk B1 := prM_e hA hB1 (by simp only [List.length_cons, List.length_nil]; omega) (by rw [hlen]; omega) (by omega) (by omega)
      have hB1p := hB1.1.1
      have h9 := hf B1 F hpB1 (by rw [hB1.1.2.2.2]; omega) (by rw [hB1.1.2.1]; omega) (by omega)
      rw [hB1p] at h9
      have h8 := hok (p + 1) (by omega) (by omega)
      rcases hx : f (p + 1) with e | ⟨q, c'⟩
      · rw [hx] at h9
        exact h9
      · rw [hx] at h9 h8
        obtain ⟨a1, a2, a3⟩ := h8
        obtain ⟨F', B2, g1, g2, g3⟩ := h9
        rw [g2]
        have h7 := eM_tr hB1 g3
        rw [List.append_nil, Int.add_zero, ← List.map_append] at h7
        have := binT hlk hA ht hok hf hb k F' B2 q [lk p] (c0 ++ ps.reverse.map (fun g => (g, 0)) ++ c') g1 (by omega) h7 (fun g hg => by rw [List.mem_singleton.mp hg]; exact Or.inl ⟨hs.2.1, hs.2.2⟩) (by simp) (by simp only [List.length_cons, List.length_nil]; omega) (by simp only [List.length_append, List.length_map, List.length_reverse, List.length_cons, List.length_nil]; omega) a2
        exact this
theorem termT {n : Int} {lk : Int → Int} (hlk : lkok n lk) {b : Int} {f : Int → pR} (hok : ∀ p, 0 ≤ p → p ≤ n → pOk n p (f p)) {A : qA} (hA : prM n lk A) (ht : ¬ hit 0 (fM_top A)) (hf : ∀ (X : qA) (F : Nat), prM n lk X → X 0 (fd 30) = A 0 (fd 30) → b ≤ X 0 (fd 32) → n - X 0 (fd 27) < F → outF n b X (f (X 0 (fd 27))) (MF b F X)) (hb : b ≤ A 0 (fd 32)) (F : Nat) (hF : n - A 0 (fd 27) < F) : outP n lk 0 b A (p_termF lk f (A 0 (fd 27))) (MF b F A) := by
  have h9 := hf A F hA rfl hb hF
  have h8 := hok (A 0 (fd 27)) hA.2.1.1 hA.2.1.2
  have hn := hA.1.2.1
  have hA0 := hA.2.1.1
  unfold p_termF
  rcases hx : f (A 0 (fd 27)) with e | ⟨q, c⟩
  · rw [hx] at h9
    exact h9
  · rw [hx] at h9 h8
    obtain ⟨a1, a2, a3⟩ := h8
    obtain ⟨F', B, g1, g2, g3⟩ := h9
    rw [g2]
    have := binT hlk hA ht hok hf hb 200 F' B q [] c g1 (by omega) g3 (fun g hg => by cases hg) (by simp) (by simp only [List.length_nil]; omega) (by simp only [List.length_nil]; omega) a2
    rw [List.reverse_nil, List.map_nil, List.append_nil] at this
    exact this
/-- a sum: terms -/
theorem binS {n : Int} {lk : Int → Int} (hlk : lkok n lk) {b : Int} {f : Int → pR} {A : qA} (hA : prM n lk A) (ht : ¬ hit 1 (fM_top A)) (hok : ∀ p, 0 ≤ p → p ≤ n → pOk n p (f p)) (hf : ∀ (X : qA) (F : Nat), prM n lk X → ¬ hit 0 (fM_top X) → X 0 (fd 30) = A 0 (fd 30) → b ≤ X 0 (fd 32) → n - X 0 (fd 27) < F → outP n lk 0 b X (f (X 0 (fd 27))) (MF b F X)) (hb : b ≤ A 0 (fd 32)) : ∀ (k F : Nat) (B : qA) (p : Int) (ps : List Int) (c0 : List (Int × Int)), n - p < F → n - p < k → eM A B p (ps.map ew) (c0.map en) 0 → (∀ g ∈ ps, hit 1 (opc g)) → ps.length ≤ 2 → A 0 (fd 27) + ps.length ≤ p → A 0 (fd 27) + (c0.length + ps.length : Nat) ≤ p → p ≤ n → qone 4 (lk p) = 0 → outP n lk 1 b A (p_bin lk 3 f k p (c0 ++ ps.reverse.map (fun g => (g, 0)))) (MS b F B)
  | 0, F, B, p, ps, c0, hF, hk, _, _, _, _, _, hn, _ => by exfalso; omega
  | k + 1, F, B, p, ps, c0, hF, hk, hB, hps, hl, h1, h2, hn, h4 => by
    have hA0 := hA.2.1.1
    have hw0 := hA.2.2.1.1
    have hop := hA.2.2.2.2
    have hpB : prM n lk B := prM_e hA hB (by rw [List.length_map]; omega) (by rw [List.length_map]; omega) hn (by omega)
    have hBp := hB.1.1
    unfold p_bin
    by_cases hq : qone 3 (lk p) = 0
    · rw [if_pos hq]
      exact ⟨F, B, ps, c0, hF, rfl, hB, rfl, hps, by omega, h4, fun _ => hq⟩
    · rw [if_neg hq]
      have hin := lk_one hlk (p := p) (by omega) hq
      have hsg := sg_sum (by omega) (by have := (hlk p (by omega)).1; omega) B (x := lk p)
      have hs : fM_sumSign (lk p) B = opc (lk p) ∧ 2 ≤ opc (lk p) ∧ opc (lk p) ≤ 3 := by
        rcases hsg with z | z | z
        · exact absurd z.1 hq
        · exact ⟨z.2.2.1, z.2.2.2⟩
        · exact absurd z.1 hq
      obtain ⟨F, rfl⟩ : ∃ F', F = F' + 1 := ⟨F - 1, by omega⟩
      obtain ⟨B1, e1, hB1⟩ := step_MS (a := 1) (b := b) (F := F) hpB hBp hin.1 hw0 ⟨hs.1, Or.inl ⟨hs.2.1, hs.2.2, rfl⟩⟩ ht hps (by omega) hB
      rw [e1]
      have hlen : ((c0 ++ ps.reverse.map (fun g => (g, (0 : Int)))).map en).length = c0.length + ps.length := by simp
      have hpB1 : prM n lk B1 := prM_e hA hB1 (by simp only [List.length_cons, List.length_nil]; omega) (by rw [hlen]; omega) (by omega) (by omega)
      have hB1p := hB1.1.1
      have htop : fM_top B1 = opc (lk p) := hit_ew (a := 0) (ps := []) hB1 hw0 (by omega)
      have h9 := hf B1 F hpB1 (by rw [htop]; unfold hit; omega) (by rw [hB1.1.2.2.2]; omega) (by rw [hB1.1.2.1]; omega) (by omega)
      rw [hB1p] at h9
      have h8 := hok (p + 1) (by omega) (by omega)
      rcases hx : f (p + 1) with e | ⟨q, c'⟩
      · rw [hx] at h9
        exact h9
      · rw [hx] at h9 h8
        obtain ⟨a1, a2, a3⟩ := h8
        obtain ⟨F', B2, ps', c1, g1, g2, g3, g4, g5, g6, g7, _⟩ := h9
        rw [g2]
        have h7 := eM_tr hB1 g3
        rw [Int.add_zero, ← List.map_append, show [ew (lk p)] ++ ps'.map ew = (lk p :: ps').map ew from rfl] at h7
        have hlc : c'.length = c1.length + ps'.length := by rw [g4]; simp
        have hl5 : ps'.length ≤ 1 := by omega
        have := binS hlk hA ht hok hf hb k F' B2 q (lk p :: ps') (c0 ++ ps.reverse.map (fun g => (g, 0)) ++ c1) g1 (by omega) h7 (fun g hg => by
          rcases List.mem_cons.mp hg with z | z
          · rw [z]; exact Or.inr ⟨rfl, hs.2.1, by omega⟩
          · have := g5 g z
            unfold hit at this ⊢
            omega) (by simp only [List.length_cons]; omega) (by simp only [List.length_cons]; omega) (by simp only [List.length_append, List.length_map, List.length_reverse, List.length_cons]; omega) a2 g7
        rw [g4]
        have e9 : c0 ++ ps.reverse.map (fun g => (g, (0 : Int))) ++ c1 ++ (lk p :: ps').reverse.map (fun g => (g, 0)) = c0 ++ ps.reverse.map (fun g => (g, 0)) ++ (c1 ++ ps'.reverse.map (fun g => (g, 0))) ++ [(lk p, 0)] := by
          simp
        rw [e9] at this
        exact this
theorem sumT {n : Int} {lk : Int → Int} (hlk : lkok n lk) {b : Int} {f : Int → pR} (hok : ∀ p, 0 ≤ p → p ≤ n → pOk n p (f p)) {A : qA} (hA : prM n lk A) (ht : ¬ hit 1 (fM_top A)) (hf : ∀ (X : qA) (F : Nat), prM n lk X → ¬ hit 0 (fM_top X) → X 0 (fd 30) = A 0 (fd 30) → b ≤ X 0 (fd 32) → n - X 0 (fd 27) < F → outP n lk 0 b X (f (X 0 (fd 27))) (MF b F X)) (hb : b ≤ A 0 (fd 32)) (F : Nat) (hF : n - A 0 (fd 27) < F) : outP n lk 1 b A (p_bind (f (A 0 (fd 27))) fun q c => p_bin lk 3 f 200 q c) (MF b F A) := by
  have h9 := hf A F hA (fun q => ht (by unfold hit at q ⊢; omega)) rfl hb hF
  have h8 := hok (A 0 (fd 27)) hA.2.1.1 hA.2.1.2
  have hn := hA.1.2.1
  have hA0 := hA.2.1.1
  rcases hx : f (A 0 (fd 27)) with e | ⟨q, c⟩
  · rw [hx] at h9
    exact h9
  · rw [hx] at h9 h8
    obtain ⟨a1, a2, a3⟩ := h8
    obtain ⟨F', B, ps, c0, g1, g2, g3, g4, g5, g6, g7, _⟩ := h9
    rw [g2]
    have hlc : c.length = c0.length + ps.length := by rw [g4]; simp
    have := binS hlk hA ht hok hf hb 200 F' B q ps c0 g1 (by omega) g3 (fun g hg => by
      have := g5 g hg
      unfold hit at this ⊢
      omega) (by omega) (by omega) (by omega) a2 g7
    rw [← g4] at this
    exact this
theorem mcat_mem {f : Int → Int} : ∀ {c : List Int} {z : Int}, mcat f z c → ∀ j, z ≤ j → j < z + c.length → f j ∈ c
  | [], z, _, j, h1, h2 => by simp only [List.length_nil] at h2; omega
  | x :: c, z, h, j, h1, h2 => by
    by_cases hj : j = z
    · rw [hj, h.1]; exact List.mem_cons_self
    · exact List.mem_cons_of_mem _ (mcat_mem h.2 j (by omega) (by simp only [List.length_cons] at h2; omega))
theorem facG {n : Int} {lk : Int → Int} (hlk : lkok n lk) {b : Int} {A : qA} (hA : prM n lk A) {op : Int → pR} {F : Nat} (hF : n - A 0 (fd 27) < F) (hop : lk (A 0 (fd 27)) = 91 → outF n b A (op (A 0 (fd 27))) (MF b F A)) : outF n b A (p_fac lk op (A 0 (fd 27))) (MF b F A) := by
  have hA0 := hA.2.1.1
  by_cases h91 : lk (A 0 (fd 27)) = 91
  · unfold p_fac
    rw [if_pos h91]
    exact hop h91
  · have h8 := pOk_fac hlk (op := fun _ => .inl (-1)) (fun _ _ _ => pOk_neg (by decide)) (A 0 (fd 27)) hA0 hA.2.1.2
    unfold p_fac at h8 ⊢
    rw [if_neg h91] at h8 ⊢
    have hrf : fM_readsFactor A = (if (if 48 ≤ lk (A 0 (fd 27)) ∧ lk (A 0 (fd 27)) ≤ 57 then (1 : Int) else 0) = 0 then (if fM_factOf (lk (A 0 (fd 27))) A = -1 then (0, fM_wrongAt 1 (A 0 (fd 27)) A) else (1, qu (fM_notes 1 (fM_factOf (lk (A 0 (fd 27))) A) A) 0 (fd 27) ((fM_notes 1 (fM_factOf (lk (A 0 (fd 27))) A) A) 0 (fd 27) + 1))) else (if (fM_readsNumber A).1 = 0 then (0, (fM_readsNumber A).2) else (1, fM_notes 0 ((fM_readsNumber A).2 0 (fd 34)) (fM_readsNumber A).2))) := by
      unfold fM_readsFactor
      simp only [qlet, qlp]
      rw [here_is hA, dig_is hA, if_neg h91]
    unfold MF
    rw [hrf]
    by_cases hd : 48 ≤ lk (A 0 (fd 27)) ∧ lk (A 0 (fd 27)) ≤ 57
    · rw [if_pos hd] at h8 ⊢
      rw [if_pos hd, if_neg (show ¬ (1 : Int) = 0 by decide)]
      have h9 := numM hlk hA
      rcases hx : p_num lk 5 (A 0 (fd 27)) 0 with e | ⟨q, c⟩
      · rw [hx] at h9
        rw [if_pos h9.1]
        exact ⟨rfl, h9.2⟩
      · rw [hx] at h9 h8
        rw [if_neg (show ¬ (fM_readsNumber A).1 = 0 by rw [h9.1]; decide)]
        refine ⟨F, _, by have := h8.1; omega, rfl, ?_⟩
        have := eM_notes h9.2.1 0 ((fM_readsNumber A).2 0 (fd 34))
        rw [h9.2.2]
        exact this
    · rw [if_neg hd] at h8 ⊢
      rw [if_neg hd, if_pos rfl]
      have hb := (hlk _ hA0).1
      rcases sg_fact hb.1 hb.2 A with ⟨z1, z2⟩ | ⟨z1, z2, z3⟩
      · rw [if_pos z1, z2, if_pos rfl, if_pos rfl]
        refine ⟨rfl, ?_⟩
        show (fM_wrongAt 1 (A 0 (fd 27)) A) 0 (fd 29) = _
        rw [wrong_is]; omega
      · rw [if_neg z1] at h8 ⊢
        rw [z2, if_neg z3, if_neg (show ¬ (1 : Int) = 0 by decide)]
        have hn1 := eM_notes (eM_0 A) 1 (qix 0 (lk (A 0 (fd 27))))
        refine ⟨F, _, by omega, rfl, ?_⟩
        rw [hn1.1.1]
        exact eM_go hn1 _
theorem rf_open {n : Int} {lk : Int → Int} (hlk : lkok n lk) {A : qA} (hA : prM n lk A) (h91 : lk (A 0 (fd 27)) = 91) (h6 : A 0 (fd 30) < 6) : fM_readsFactor A = fM_readsFactor (fM_opens 14 A).2 ∧ prM n lk (fM_opens 14 A).2 ∧ eM A (fM_opens 14 A).2 (A 0 (fd 27) + 1) [1048576 * 14] [] 1 := by
  have ho := opens_is (w := 14) hA (by decide) h6
  have hin := lk_in hlk (p := A 0 (fd 27)) hA.2.1.1 (by omega)
  have hB2 := prM_e hA ho.2 (by simp only [List.length_cons, List.length_nil]; omega) (by simp only [List.length_nil]; omega) (by omega) (by have := hA.2.2.2.2; omega)
  refine ⟨?_, hB2, ho.2⟩
  have e1 : fM_readsFactor A = fM_readsFactor_L 100000 0 [] (fM_opens 14 A).2 := by
    rw [rf_c0]
    unfold fM_readsFactor_c0
    simp only [qlet, qlp]
    rw [here_is hA, if_pos h91, if_neg (show ¬ (fM_opens 14 A).1 = 0 by rw [ho.1]; decide)]
  rw [e1]
  exact rf_is hlk hB2
theorem facM {n : Int} {lk : Int → Int} (hlk : lkok n lk) {b : Int} (hb0 : 0 ≤ b) : ∀ (e : Nat) (A : qA) (F : Nat), prM n lk A → A 0 (fd 30) = 6 - (e : Int) → b ≤ A 0 (fd 32) → n - A 0 (fd 27) < F → outF n b A (p_facE lk e (A 0 (fd 27))) (MF b F A)
  | 0, A, F, hA, ho, hb, hF => by
    refine facG hlk hA hF (fun h91 => ?_)
    have h6 := opens_6 (w := 14) (A := A) (by rw [ho]; rfl)
    have e1 : fM_readsFactor A = (0, (fM_opens 14 A).2) := by
      rw [rf_c0]
      unfold fM_readsFactor_c0
      simp only [qlet, qlp]
      rw [here_is hA, if_pos h91, if_pos h6.1]
    unfold MF
    rw [e1]
    exact ⟨rfl, h6.2⟩
  | e + 1, A, F, hA, ho, hb, hF => by
    refine facG hlk hA hF (fun h91 => ?_)
    obtain ⟨r1, r2, r3⟩ := rf_open hlk hA h91 (by omega)
    have hA0 := hA.2.1.1
    have hw0 := hA.2.2.1.1
    have hn200 := hA.1.2.1
    have hin := lk_in hlk (p := A 0 (fd 27)) hA0 (by omega)
    have e1 : MF b F A = MF b F (fM_opens 14 A).2 := by unfold MF; rw [r1]
    rw [e1]
    generalize fM_opens 14 A = oo at r2 r3
    have hp1 := r3.1.1
    have hw1 : oo.2 0 (fd 32) = A 0 (fd 32) + 1 := by rw [r3.1.2.1]; rfl
    have ho1 : oo.2 0 (fd 30) = 6 - (e : Int) := by rw [r3.1.2.2.2]; omega
    have htop : fM_top oo.2 = 14 := by
      rw [top_is (ps := []) r3 hw0 (by decide)]
      decide
    have h8 := pOk_sumE hlk e (A 0 (fd 27) + 1) (by omega) (by omega)
    have h9 := sumT hlk (pOk_termE hlk e) r2 (by rw [htop]; unfold hit; omega) (fun X F' hX ht' ho' hb' hF' => termT hlk (pOk_facE hlk e) hX ht' (fun Y F'' hY ho'' hb'' hF'' => facM hlk hb0 e Y F'' hY (by omega) hb'' hF'') hb' F' hF') (by omega) F (by omega)
    rw [hp1] at h9
    show outF n b A (p_clo lk (p_sumE lk e (A 0 (fd 27) + 1)) 93) _
    have h9 : outP n lk 1 b oo.2 (p_sumE lk e (A 0 (fd 27) + 1)) (MF b F oo.2) := h9
    unfold p_clo
    rcases hx : p_sumE lk e (A 0 (fd 27) + 1) with f | ⟨q, c⟩
    · rw [hx] at h9
      exact h9
    · rw [hx] at h9 h8
      obtain ⟨a1, a2, a3⟩ := h8
      obtain ⟨F', B, ps, c0, g1, g2, g3, g4, g5, g6, g7, g7'⟩ := h9
      rw [g2]
      obtain ⟨F', rfl⟩ : ∃ F'', F' = F'' + 1 := ⟨F' - 1, by omega⟩
      have hlc : c.length = c0.length + ps.length := by rw [g4]; simp
      have hAB := eM_tr r3 g3
      rw [List.nil_append, Int.add_zero] at hAB
      have hoo := r2.2.2.2.2
      have hpB : prM n lk B := prM_e r2 g3 (by rw [List.length_map]; omega) (by rw [List.length_map]; omega) a2 (by omega)
      have hBq := g3.1.1
      have hq0 : 0 ≤ q := by omega
      have hbq := (hlk q hq0).1
      have hsg : fM_sumSign (lk q) B = -1 := by
        rcases sg_sum hbq.1 hbq.2 B with z | z | z
        · exact z.2.2
        · exact absurd (g7' rfl) z.1
        · exact absurd g7 z.2.1
      have hos : fM_hasOpenSum b B = 1 := by
        refine open_some (j := A 0 (fd 32)) ?_ ?_ 300 100000 b (by decide) ?_ hb
        · rw [hAB.1.2.1]; simp only [List.length_append, List.length_cons, List.length_nil]; omega
        · have := (mcat_app.mp hAB.2.1).1.1
          rw [this]; decide
        · have := hA.2.2.1.2; have := hA.2.1.2
          omega
      show outF n b A (if lk q = 93 then .inr (q + 1, c) else .inl (-1000 - q)) (fM_readsSum_c8 (fM_readsSum_L F') b B)
      unfold fM_readsSum_c8
      simp only [qlet, qlp]
      rw [here_is hpB, hBq, hsg, if_pos rfl, hos]
      by_cases h93 : lk q = 93
      · rw [if_pos h93, if_pos h93, if_neg (show ¬ (1 : Int) = 0 by decide)]
        have hcl := closes (a := 1) (by omega) (Or.inr rfl) (by rw [htop]; unfold hit; omega) (by omega) g5 g3
        have hcode : c.map en = c0.map en ++ ps.reverse.map ew := by rw [g4, List.map_append, en_0]
        rw [← hcode] at hcl
        have hAC := eM_tr r3 hcl
        rw [List.nil_append, List.append_nil, Int.add_zero] at hAC
        generalize fM_closesSums 1 B = C at hcl hAC ⊢
        have hCw : C 0 (fd 32) = A 0 (fd 32) + 1 := by rw [hAC.1.2.1]; rfl
        have hCo : C 0 (fd 30) = A 0 (fd 30) + 1 := hAC.1.2.2.2
        have hCp : C 0 (fd 27) = q := hAC.1.1
        have hwn := hA.2.2.1.2
        have hin2 := lk_in hlk hq0 (by omega)
        have hAo := hA.2.2.2.2
        have e2 : wI (C 0 (fd 32) - 1) = C 0 (fd 32) - 1 := wI_id ⟨by omega, by omega⟩
        have k1 : (qu C 0 (fd 32) (C 0 (fd 32) - 1)) 0 (fd 30) = C 0 (fd 30) := by simp [qu_is, fd_eq]
        have e3 : wI (C 0 (fd 30) - 1) = C 0 (fd 30) - 1 := wI_id ⟨by omega, by omega⟩
        have k2 : (qu (qu C 0 (fd 32) (C 0 (fd 32) - 1)) 0 (fd 30) (C 0 (fd 30) - 1)) 0 (fd 27) = q := by simp [qu_is, fd_eq, hCp]
        have e4 : wI (q + 1) = q + 1 := wI_id ⟨by omega, by omega⟩
        rw [e2, k1, e3, k2, e4]
        refine ⟨F', _, by omega, rfl, ?_⟩
        have h7 := eM_go (eM_open (eM_pop (ps := []) hAC) (C 0 (fd 30) - 1)) (q + 1)
        rw [show C 0 (fd 30) - 1 - A 0 (fd 30) = 0 by omega] at h7
        exact h7
      · rw [if_neg h93, if_neg h93, if_neg (show ¬ (1 : Int) = 0 by decide)]
        refine ⟨rfl, ?_⟩
        show (fM_wrongAt 1 q B) 0 (fd 29) = _
        rw [wrong_is]; omega
theorem sumM {n : Int} {lk : Int → Int} (hlk : lkok n lk) (e : Nat) {A : qA} (hA : prM n lk A) (ho : A 0 (fd 30) = 6 - (e : Int)) (ht : ¬ hit 1 (fM_top A)) : match p_sumE lk e (A 0 (fd 27)) with | .inl f => (fM_readsSum A).1 = 0 ∧ (fM_readsSum A).2 0 (fd 29) = f | .inr (q, c) => (fM_readsSum A).1 = 1 ∧ eM A (fM_readsSum A).2 q [] (c.map en) 0 := by
  have hA0 := hA.2.1.1
  have hw0 := hA.2.2.1.1
  have hwn := hA.2.2.1.2
  have hn200 := hA.1.2.1
  have h8 := pOk_sumE hlk e (A 0 (fd 27)) hA0 hA.2.1.2
  have h9 := sumT hlk (b := A 0 (fd 32)) (pOk_termE hlk e) hA ht (fun X F' hX ht' ho' hb' hF' => termT hlk (pOk_facE hlk e) hX ht' (fun Y F'' hY ho'' hb'' hF'' => facM hlk hw0 e Y F'' hY (by omega) hb'' hF'') hb' F' hF') (Int.le_refl _) 100000 (by have := hA.2.1; omega)
  have h9 : outP n lk 1 (A 0 (fd 32)) A (p_sumE lk e (A 0 (fd 27))) (fM_readsSum A) := h9
  rcases hx : p_sumE lk e (A 0 (fd 27)) with f | ⟨q, c⟩
  · rw [hx] at h9
    exact h9
  · rw [hx] at h9 h8
    obtain ⟨a1, a2, a3⟩ := h8
    obtain ⟨F', B, ps, c0, g1, g2, g3, g4, g5, g6, g7, g7'⟩ := h9
    rw [g2]
    obtain ⟨F', rfl⟩ : ∃ F'', F' = F'' + 1 := ⟨F' - 1, by omega⟩
    have hlc : c.length = c0.length + ps.length := by rw [g4]; simp
    have hpB : prM n lk B := prM_e hA g3 (by rw [List.length_map]; omega) (by rw [List.length_map]; omega) a2 (by have := hA.2.2.2.2; omega)
    have hBq := g3.1.1
    have hbq := (hlk q (by omega)).1
    have hsg : fM_sumSign (lk q) B = -1 := by
      rcases sg_sum hbq.1 hbq.2 B with z | z | z
      · exact z.2.2
      · exact absurd (g7' rfl) z.1
      · exact absurd g7 z.2.1
    have hos : fM_hasOpenSum (A 0 (fd 32)) B = 0 := by
      refine open_none (b := A 0 (fd 32)) 2 100000 _ (by decide) (by rw [g3.1.2.1, List.length_map]; omega) (Int.le_refl _) (fun j j0 j1 => ?_)
      have hm := mcat_mem g3.2.1 j j0 (by rw [g3.1.2.1] at j1; exact j1)
      obtain ⟨g, hg, he⟩ := List.mem_map.mp hm
      have := g5 g hg
      rw [← he, qd_nn (by unfold ew; unfold hit at this; omega)]
      unfold ew
      unfold hit at this
      omega
    have hcl := closes (a := 1) hw0 (Or.inr rfl) ht (by omega) g5 g3
    have hcode : c.map en = c0.map en ++ ps.reverse.map ew := by rw [g4, List.map_append, en_0]
    rw [← hcode] at hcl
    show (fM_readsSum_c8 (fM_readsSum_L F') (A 0 (fd 32)) B).1 = 1 ∧ eM A (fM_readsSum_c8 (fM_readsSum_L F') (A 0 (fd 32)) B).2 q [] (c.map en) 0
    unfold fM_readsSum_c8
    simp only [qlet, qlp]
    rw [here_is hpB, hBq, hsg, if_pos rfl, hos, if_pos rfl]
    split <;> exact ⟨rfl, hcl⟩
